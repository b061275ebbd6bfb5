section
-- ===== PART A: goes FIRST, ahead of the names: the tables' words, and 'selects' of the private methods out of them =====
/-- a private method of a class that the tables say can be made, by its rows of tables_1 -/
def lw_okq (q : MethodName × Nat) : Prop := (q.1.cls ≠ "java/lang/invoke/MethodHandle" ∧ q.1.cls ≠ "java/lang/invoke/VarHandle") ∧ Cond.instantiable q.1.cls q.2 ∈ tables_1 ∧ Cond.privateMethod q.1 ∈ tables_1 ∧ Cond.instanceMethod q.1 ∈ tables_1
theorem lw_p0 : lw_okq (⟨"JoinedLight", "keepTrial", "(I)I"⟩, 11) := ⟨⟨by decide +kernel, by decide +kernel⟩, List.mem_of_getElem? (i := 14) (by decide +kernel), List.mem_of_getElem? (i := 241) (by decide +kernel), List.mem_of_getElem? (i := 242) (by decide +kernel)⟩
theorem lw_p1 : lw_okq (⟨"JoinedLight$History", "dropOldest", "()V"⟩, 2) := ⟨⟨by decide +kernel, by decide +kernel⟩, List.mem_of_getElem? (i := 144) (by decide +kernel), List.mem_of_getElem? (i := 249) (by decide +kernel), List.mem_of_getElem? (i := 250) (by decide +kernel)⟩
theorem lw_p2 : lw_okq (⟨"JoinedLight$Bench", "addThing", "(IIIII)I"⟩, 10) := ⟨⟨by decide +kernel, by decide +kernel⟩, List.mem_of_getElem? (i := 22) (by decide +kernel), List.mem_of_getElem? (i := 275) (by decide +kernel), List.mem_of_getElem? (i := 276) (by decide +kernel)⟩
theorem lw_p3 : lw_okq (⟨"JoinedLight$Bench", "copyThing", "(II)V"⟩, 10) := ⟨⟨by decide +kernel, by decide +kernel⟩, List.mem_of_getElem? (i := 22) (by decide +kernel), List.mem_of_getElem? (i := 292) (by decide +kernel), List.mem_of_getElem? (i := 293) (by decide +kernel)⟩
theorem lw_p4 : lw_okq (⟨"JoinedLight$Rays", "finish", "(III)V"⟩, 5) := ⟨⟨by decide +kernel, by decide +kernel⟩, List.mem_of_getElem? (i := 75) (by decide +kernel), List.mem_of_getElem? (i := 359) (by decide +kernel), List.mem_of_getElem? (i := 360) (by decide +kernel)⟩
theorem lw_p5 : lw_okq (⟨"JoinedLight", "turnOfThing", "(I)I"⟩, 11) := ⟨⟨by decide +kernel, by decide +kernel⟩, List.mem_of_getElem? (i := 14) (by decide +kernel), List.mem_of_getElem? (i := 390) (by decide +kernel), List.mem_of_getElem? (i := 391) (by decide +kernel)⟩
theorem lw_p6 : lw_okq (⟨"JoinedLight", "heightAt", "(II)I"⟩, 11) := ⟨⟨by decide +kernel, by decide +kernel⟩, List.mem_of_getElem? (i := 14) (by decide +kernel), List.mem_of_getElem? (i := 407) (by decide +kernel), List.mem_of_getElem? (i := 408) (by decide +kernel)⟩
theorem lw_p7 : lw_okq (⟨"JoinedLight$Cells", "addTo", "(III)V"⟩, 4) := ⟨⟨by decide +kernel, by decide +kernel⟩, List.mem_of_getElem? (i := 102) (by decide +kernel), List.mem_of_getElem? (i := 423) (by decide +kernel), List.mem_of_getElem? (i := 424) (by decide +kernel)⟩
theorem lw_p8 : lw_okq (⟨"JoinedLight$Cells", "slotOf", "(I)I"⟩, 4) := ⟨⟨by decide +kernel, by decide +kernel⟩, List.mem_of_getElem? (i := 102) (by decide +kernel), List.mem_of_getElem? (i := 427) (by decide +kernel), List.mem_of_getElem? (i := 428) (by decide +kernel)⟩
theorem lw_p9 : lw_okq (⟨"JoinedLight$Cells", "rankOf", "(I)I"⟩, 4) := ⟨⟨by decide +kernel, by decide +kernel⟩, List.mem_of_getElem? (i := 102) (by decide +kernel), List.mem_of_getElem? (i := 447) (by decide +kernel), List.mem_of_getElem? (i := 448) (by decide +kernel)⟩
theorem lw_p10 : lw_okq (⟨"JoinedLight", "offerPlace", "(II)V"⟩, 11) := ⟨⟨by decide +kernel, by decide +kernel⟩, List.mem_of_getElem? (i := 14) (by decide +kernel), List.mem_of_getElem? (i := 466) (by decide +kernel), List.mem_of_getElem? (i := 467) (by decide +kernel)⟩
theorem lw_p11 : lw_okq (⟨"JoinedLight", "offerTrial", "(I)V"⟩, 11) := ⟨⟨by decide +kernel, by decide +kernel⟩, List.mem_of_getElem? (i := 14) (by decide +kernel), List.mem_of_getElem? (i := 470) (by decide +kernel), List.mem_of_getElem? (i := 471) (by decide +kernel)⟩
theorem lw_p12 : lw_okq (⟨"JoinedLight", "countOfRays", "(I)I"⟩, 11) := ⟨⟨by decide +kernel, by decide +kernel⟩, List.mem_of_getElem? (i := 14) (by decide +kernel), List.mem_of_getElem? (i := 531) (by decide +kernel), List.mem_of_getElem? (i := 532) (by decide +kernel)⟩
theorem lw_p13 : lw_okq (⟨"JoinedLight", "lightIsJoined", "()Z"⟩, 11) := ⟨⟨by decide +kernel, by decide +kernel⟩, List.mem_of_getElem? (i := 14) (by decide +kernel), List.mem_of_getElem? (i := 535) (by decide +kernel), List.mem_of_getElem? (i := 536) (by decide +kernel)⟩
theorem lw_p14 : lw_okq (⟨"JoinedLight", "tryText", "()V"⟩, 11) := ⟨⟨by decide +kernel, by decide +kernel⟩, List.mem_of_getElem? (i := 14) (by decide +kernel), List.mem_of_getElem? (i := 568) (by decide +kernel), List.mem_of_getElem? (i := 569) (by decide +kernel)⟩
theorem lw_p15 : lw_okq (⟨"JoinedLight$Text", "signAt", "(I)C"⟩, 5) := ⟨⟨by decide +kernel, by decide +kernel⟩, List.mem_of_getElem? (i := 160) (by decide +kernel), List.mem_of_getElem? (i := 576) (by decide +kernel), List.mem_of_getElem? (i := 577) (by decide +kernel)⟩
def lw_privs_1 : List (MethodName × Nat) := [(⟨"JoinedLight", "keepTrial", "(I)I"⟩, 11), (⟨"JoinedLight$History", "dropOldest", "()V"⟩, 2), (⟨"JoinedLight$Bench", "addThing", "(IIIII)I"⟩, 10), (⟨"JoinedLight$Bench", "copyThing", "(II)V"⟩, 10), (⟨"JoinedLight$Rays", "finish", "(III)V"⟩, 5), (⟨"JoinedLight", "turnOfThing", "(I)I"⟩, 11), (⟨"JoinedLight", "heightAt", "(II)I"⟩, 11), (⟨"JoinedLight$Cells", "addTo", "(III)V"⟩, 4), (⟨"JoinedLight$Cells", "slotOf", "(I)I"⟩, 4), (⟨"JoinedLight$Cells", "rankOf", "(I)I"⟩, 4), (⟨"JoinedLight", "offerPlace", "(II)V"⟩, 11), (⟨"JoinedLight", "offerTrial", "(I)V"⟩, 11), (⟨"JoinedLight", "countOfRays", "(I)I"⟩, 11), (⟨"JoinedLight", "lightIsJoined", "()Z"⟩, 11), (⟨"JoinedLight", "tryText", "()V"⟩, 11), (⟨"JoinedLight$Text", "signAt", "(I)C"⟩, 5)]
theorem lw_r1 : ∀ q ∈ lw_privs_1, lw_okq q := List.forall_mem_cons.mpr ⟨lw_p0, List.forall_mem_cons.mpr ⟨lw_p1, List.forall_mem_cons.mpr ⟨lw_p2, List.forall_mem_cons.mpr ⟨lw_p3, List.forall_mem_cons.mpr ⟨lw_p4, List.forall_mem_cons.mpr ⟨lw_p5, List.forall_mem_cons.mpr ⟨lw_p6, List.forall_mem_cons.mpr ⟨lw_p7, List.forall_mem_cons.mpr ⟨lw_p8, List.forall_mem_cons.mpr ⟨lw_p9, List.forall_mem_cons.mpr ⟨lw_p10, List.forall_mem_cons.mpr ⟨lw_p11, List.forall_mem_cons.mpr ⟨lw_p12, List.forall_mem_cons.mpr ⟨lw_p13, List.forall_mem_cons.mpr ⟨lw_p14, List.forall_mem_cons.mpr ⟨lw_p15, fun _ h => absurd h List.not_mem_nil⟩⟩⟩⟩⟩⟩⟩⟩⟩⟩⟩⟩⟩⟩⟩⟩
theorem lw_p16 : lw_okq (⟨"JoinedLight$Text", "readNumber", "(I)Z"⟩, 5) := ⟨⟨by decide +kernel, by decide +kernel⟩, List.mem_of_getElem? (i := 160) (by decide +kernel), List.mem_of_getElem? (i := 583) (by decide +kernel), List.mem_of_getElem? (i := 584) (by decide +kernel)⟩
theorem lw_p17 : lw_okq (⟨"JoinedLight$Text", "readSign", "(C)Z"⟩, 5) := ⟨⟨by decide +kernel, by decide +kernel⟩, List.mem_of_getElem? (i := 160) (by decide +kernel), List.mem_of_getElem? (i := 588) (by decide +kernel), List.mem_of_getElem? (i := 589) (by decide +kernel)⟩
theorem lw_p18 : lw_okq (⟨"JoinedLight", "noteFault", "(III)V"⟩, 11) := ⟨⟨by decide +kernel, by decide +kernel⟩, List.mem_of_getElem? (i := 14) (by decide +kernel), List.mem_of_getElem? (i := 592) (by decide +kernel), List.mem_of_getElem? (i := 593) (by decide +kernel)⟩
theorem lw_p19 : lw_okq (⟨"JoinedLight", "doOrder", "()I"⟩, 11) := ⟨⟨by decide +kernel, by decide +kernel⟩, List.mem_of_getElem? (i := 14) (by decide +kernel), List.mem_of_getElem? (i := 596) (by decide +kernel), List.mem_of_getElem? (i := 597) (by decide +kernel)⟩
theorem lw_p20 : lw_okq (⟨"JoinedLightModel", "changes", "()V"⟩, 21) := ⟨⟨by decide +kernel, by decide +kernel⟩, List.mem_of_getElem? (i := 604) (by decide +kernel), List.mem_of_getElem? (i := 683) (by decide +kernel), List.mem_of_getElem? (i := 684) (by decide +kernel)⟩
theorem lw_p21 : lw_okq (⟨"JoinedLightModel", "isLine", "(I)Z"⟩, 21) := ⟨⟨by decide +kernel, by decide +kernel⟩, List.mem_of_getElem? (i := 604) (by decide +kernel), List.mem_of_getElem? (i := 691) (by decide +kernel), List.mem_of_getElem? (i := 692) (by decide +kernel)⟩
theorem lw_p22 : lw_okq (⟨"JoinedLightModel", "lightOf", "(I)I"⟩, 21) := ⟨⟨by decide +kernel, by decide +kernel⟩, List.mem_of_getElem? (i := 604) (by decide +kernel), List.mem_of_getElem? (i := 695) (by decide +kernel), List.mem_of_getElem? (i := 696) (by decide +kernel)⟩
theorem lw_p23 : lw_okq (⟨"JoinedLightModel", "lays", "(IIIII)I"⟩, 21) := ⟨⟨by decide +kernel, by decide +kernel⟩, List.mem_of_getElem? (i := 604) (by decide +kernel), List.mem_of_getElem? (i := 706) (by decide +kernel), List.mem_of_getElem? (i := 707) (by decide +kernel)⟩
theorem lw_p24 : lw_okq (⟨"JoinedLightModel", "at", "(I)I"⟩, 21) := ⟨⟨by decide +kernel, by decide +kernel⟩, List.mem_of_getElem? (i := 604) (by decide +kernel), List.mem_of_getElem? (i := 710) (by decide +kernel), List.mem_of_getElem? (i := 711) (by decide +kernel)⟩
theorem lw_p25 : lw_okq (⟨"JoinedLightModel", "of", "(II)I"⟩, 21) := ⟨⟨by decide +kernel, by decide +kernel⟩, List.mem_of_getElem? (i := 604) (by decide +kernel), List.mem_of_getElem? (i := 714) (by decide +kernel), List.mem_of_getElem? (i := 715) (by decide +kernel)⟩
theorem lw_p26 : lw_okq (⟨"JoinedLightModel", "opens", "(I)I"⟩, 21) := ⟨⟨by decide +kernel, by decide +kernel⟩, List.mem_of_getElem? (i := 604) (by decide +kernel), List.mem_of_getElem? (i := 720) (by decide +kernel), List.mem_of_getElem? (i := 721) (by decide +kernel)⟩
theorem lw_p27 : lw_okq (⟨"JoinedLightModel", "sets", "(IIIIII)V"⟩, 21) := ⟨⟨by decide +kernel, by decide +kernel⟩, List.mem_of_getElem? (i := 604) (by decide +kernel), List.mem_of_getElem? (i := 724) (by decide +kernel), List.mem_of_getElem? (i := 725) (by decide +kernel)⟩
theorem lw_p28 : lw_okq (⟨"JoinedLightModel", "takesOut", "(I)V"⟩, 21) := ⟨⟨by decide +kernel, by decide +kernel⟩, List.mem_of_getElem? (i := 604) (by decide +kernel), List.mem_of_getElem? (i := 736) (by decide +kernel), List.mem_of_getElem? (i := 737) (by decide +kernel)⟩
theorem lw_p29 : lw_okq (⟨"JoinedLightModel", "moves", "(II)I"⟩, 21) := ⟨⟨by decide +kernel, by decide +kernel⟩, List.mem_of_getElem? (i := 604) (by decide +kernel), List.mem_of_getElem? (i := 744) (by decide +kernel), List.mem_of_getElem? (i := 745) (by decide +kernel)⟩
theorem lw_p30 : lw_okq (⟨"JoinedLightModel", "follows", "(II)V"⟩, 21) := ⟨⟨by decide +kernel, by decide +kernel⟩, List.mem_of_getElem? (i := 604) (by decide +kernel), List.mem_of_getElem? (i := 756) (by decide +kernel), List.mem_of_getElem? (i := 757) (by decide +kernel)⟩
theorem lw_p31 : lw_okq (⟨"JoinedLightModel", "goes", "(I)V"⟩, 21) := ⟨⟨by decide +kernel, by decide +kernel⟩, List.mem_of_getElem? (i := 604) (by decide +kernel), List.mem_of_getElem? (i := 760) (by decide +kernel), List.mem_of_getElem? (i := 761) (by decide +kernel)⟩
def lw_privs_2 : List (MethodName × Nat) := [(⟨"JoinedLight$Text", "readNumber", "(I)Z"⟩, 5), (⟨"JoinedLight$Text", "readSign", "(C)Z"⟩, 5), (⟨"JoinedLight", "noteFault", "(III)V"⟩, 11), (⟨"JoinedLight", "doOrder", "()I"⟩, 11), (⟨"JoinedLightModel", "changes", "()V"⟩, 21), (⟨"JoinedLightModel", "isLine", "(I)Z"⟩, 21), (⟨"JoinedLightModel", "lightOf", "(I)I"⟩, 21), (⟨"JoinedLightModel", "lays", "(IIIII)I"⟩, 21), (⟨"JoinedLightModel", "at", "(I)I"⟩, 21), (⟨"JoinedLightModel", "of", "(II)I"⟩, 21), (⟨"JoinedLightModel", "opens", "(I)I"⟩, 21), (⟨"JoinedLightModel", "sets", "(IIIIII)V"⟩, 21), (⟨"JoinedLightModel", "takesOut", "(I)V"⟩, 21), (⟨"JoinedLightModel", "moves", "(II)I"⟩, 21), (⟨"JoinedLightModel", "follows", "(II)V"⟩, 21), (⟨"JoinedLightModel", "goes", "(I)V"⟩, 21)]
theorem lw_r2 : ∀ q ∈ lw_privs_2, lw_okq q := List.forall_mem_cons.mpr ⟨lw_p16, List.forall_mem_cons.mpr ⟨lw_p17, List.forall_mem_cons.mpr ⟨lw_p18, List.forall_mem_cons.mpr ⟨lw_p19, List.forall_mem_cons.mpr ⟨lw_p20, List.forall_mem_cons.mpr ⟨lw_p21, List.forall_mem_cons.mpr ⟨lw_p22, List.forall_mem_cons.mpr ⟨lw_p23, List.forall_mem_cons.mpr ⟨lw_p24, List.forall_mem_cons.mpr ⟨lw_p25, List.forall_mem_cons.mpr ⟨lw_p26, List.forall_mem_cons.mpr ⟨lw_p27, List.forall_mem_cons.mpr ⟨lw_p28, List.forall_mem_cons.mpr ⟨lw_p29, List.forall_mem_cons.mpr ⟨lw_p30, List.forall_mem_cons.mpr ⟨lw_p31, fun _ h => absurd h List.not_mem_nil⟩⟩⟩⟩⟩⟩⟩⟩⟩⟩⟩⟩⟩⟩⟩⟩
theorem lw_p32 : lw_okq (⟨"JoinedLightModel", "colour", "(I)I"⟩, 21) := ⟨⟨by decide +kernel, by decide +kernel⟩, List.mem_of_getElem? (i := 604) (by decide +kernel), List.mem_of_getElem? (i := 767) (by decide +kernel), List.mem_of_getElem? (i := 768) (by decide +kernel)⟩
theorem lw_p33 : lw_okq (⟨"JoinedLightModel", "cell", "()I"⟩, 21) := ⟨⟨by decide +kernel, by decide +kernel⟩, List.mem_of_getElem? (i := 604) (by decide +kernel), List.mem_of_getElem? (i := 774) (by decide +kernel), List.mem_of_getElem? (i := 775) (by decide +kernel)⟩
theorem lw_p34 : lw_okq (⟨"JoinedLightModel", "coming", "(I)I"⟩, 21) := ⟨⟨by decide +kernel, by decide +kernel⟩, List.mem_of_getElem? (i := 604) (by decide +kernel), List.mem_of_getElem? (i := 782) (by decide +kernel), List.mem_of_getElem? (i := 783) (by decide +kernel)⟩
theorem lw_p35 : lw_okq (⟨"JoinedLightModel", "lostAt", "(I)I"⟩, 21) := ⟨⟨by decide +kernel, by decide +kernel⟩, List.mem_of_getElem? (i := 604) (by decide +kernel), List.mem_of_getElem? (i := 786) (by decide +kernel), List.mem_of_getElem? (i := 787) (by decide +kernel)⟩
theorem lw_p36 : lw_okq (⟨"JoinedLightModel", "inCell", "(I)I"⟩, 21) := ⟨⟨by decide +kernel, by decide +kernel⟩, List.mem_of_getElem? (i := 604) (by decide +kernel), List.mem_of_getElem? (i := 798) (by decide +kernel), List.mem_of_getElem? (i := 799) (by decide +kernel)⟩
theorem lw_p37 : lw_okq (⟨"JoinedLightModel", "lightIn", "(I)I"⟩, 21) := ⟨⟨by decide +kernel, by decide +kernel⟩, List.mem_of_getElem? (i := 604) (by decide +kernel), List.mem_of_getElem? (i := 802) (by decide +kernel), List.mem_of_getElem? (i := 803) (by decide +kernel)⟩
theorem lw_p38 : lw_okq (⟨"JoinedLightModel", "laysCells", "()I"⟩, 21) := ⟨⟨by decide +kernel, by decide +kernel⟩, List.mem_of_getElem? (i := 604) (by decide +kernel), List.mem_of_getElem? (i := 810) (by decide +kernel), List.mem_of_getElem? (i := 811) (by decide +kernel)⟩
theorem lw_p39 : lw_okq (⟨"JoinedLightModel", "isBrighter", "(II)Z"⟩, 21) := ⟨⟨by decide +kernel, by decide +kernel⟩, List.mem_of_getElem? (i := 604) (by decide +kernel), List.mem_of_getElem? (i := 814) (by decide +kernel), List.mem_of_getElem? (i := 815) (by decide +kernel)⟩
theorem lw_p40 : lw_okq (⟨"JoinedLightModel", "spread", "()I"⟩, 21) := ⟨⟨by decide +kernel, by decide +kernel⟩, List.mem_of_getElem? (i := 604) (by decide +kernel), List.mem_of_getElem? (i := 832) (by decide +kernel), List.mem_of_getElem? (i := 833) (by decide +kernel)⟩
theorem lw_p41 : lw_okq (⟨"JoinedLightModel", "allLines", "()I"⟩, 21) := ⟨⟨by decide +kernel, by decide +kernel⟩, List.mem_of_getElem? (i := 604) (by decide +kernel), List.mem_of_getElem? (i := 848) (by decide +kernel), List.mem_of_getElem? (i := 849) (by decide +kernel)⟩
theorem lw_p42 : lw_okq (⟨"JoinedLightModel", "isJoined", "()Z"⟩, 21) := ⟨⟨by decide +kernel, by decide +kernel⟩, List.mem_of_getElem? (i := 604) (by decide +kernel), List.mem_of_getElem? (i := 866) (by decide +kernel), List.mem_of_getElem? (i := 867) (by decide +kernel)⟩
theorem lw_p43 : lw_okq (⟨"JoinedLightModel", "isAsItWas", "()Z"⟩, 21) := ⟨⟨by decide +kernel, by decide +kernel⟩, List.mem_of_getElem? (i := 604) (by decide +kernel), List.mem_of_getElem? (i := 870) (by decide +kernel), List.mem_of_getElem? (i := 871) (by decide +kernel)⟩
theorem lw_p44 : lw_okq (⟨"JoinedLightModel", "lostAtThings", "()I"⟩, 21) := ⟨⟨by decide +kernel, by decide +kernel⟩, List.mem_of_getElem? (i := 604) (by decide +kernel), List.mem_of_getElem? (i := 874) (by decide +kernel), List.mem_of_getElem? (i := 875) (by decide +kernel)⟩
theorem lw_p45 : lw_okq (⟨"JoinedLightModel", "plays", "()Z"⟩, 21) := ⟨⟨by decide +kernel, by decide +kernel⟩, List.mem_of_getElem? (i := 604) (by decide +kernel), List.mem_of_getElem? (i := 894) (by decide +kernel), List.mem_of_getElem? (i := 895) (by decide +kernel)⟩
theorem lw_p46 : lw_okq (⟨"JoinedLightModel", "reads", "()Z"⟩, 21) := ⟨⟨by decide +kernel, by decide +kernel⟩, List.mem_of_getElem? (i := 604) (by decide +kernel), List.mem_of_getElem? (i := 898) (by decide +kernel), List.mem_of_getElem? (i := 899) (by decide +kernel)⟩
theorem lw_p47 : lw_okq (⟨"JoinedLightModel", "isAt", "(II)Z"⟩, 21) := ⟨⟨by decide +kernel, by decide +kernel⟩, List.mem_of_getElem? (i := 604) (by decide +kernel), List.mem_of_getElem? (i := 902) (by decide +kernel), List.mem_of_getElem? (i := 903) (by decide +kernel)⟩
def lw_privs_3 : List (MethodName × Nat) := [(⟨"JoinedLightModel", "colour", "(I)I"⟩, 21), (⟨"JoinedLightModel", "cell", "()I"⟩, 21), (⟨"JoinedLightModel", "coming", "(I)I"⟩, 21), (⟨"JoinedLightModel", "lostAt", "(I)I"⟩, 21), (⟨"JoinedLightModel", "inCell", "(I)I"⟩, 21), (⟨"JoinedLightModel", "lightIn", "(I)I"⟩, 21), (⟨"JoinedLightModel", "laysCells", "()I"⟩, 21), (⟨"JoinedLightModel", "isBrighter", "(II)Z"⟩, 21), (⟨"JoinedLightModel", "spread", "()I"⟩, 21), (⟨"JoinedLightModel", "allLines", "()I"⟩, 21), (⟨"JoinedLightModel", "isJoined", "()Z"⟩, 21), (⟨"JoinedLightModel", "isAsItWas", "()Z"⟩, 21), (⟨"JoinedLightModel", "lostAtThings", "()I"⟩, 21), (⟨"JoinedLightModel", "plays", "()Z"⟩, 21), (⟨"JoinedLightModel", "reads", "()Z"⟩, 21), (⟨"JoinedLightModel", "isAt", "(II)Z"⟩, 21)]
theorem lw_r3 : ∀ q ∈ lw_privs_3, lw_okq q := List.forall_mem_cons.mpr ⟨lw_p32, List.forall_mem_cons.mpr ⟨lw_p33, List.forall_mem_cons.mpr ⟨lw_p34, List.forall_mem_cons.mpr ⟨lw_p35, List.forall_mem_cons.mpr ⟨lw_p36, List.forall_mem_cons.mpr ⟨lw_p37, List.forall_mem_cons.mpr ⟨lw_p38, List.forall_mem_cons.mpr ⟨lw_p39, List.forall_mem_cons.mpr ⟨lw_p40, List.forall_mem_cons.mpr ⟨lw_p41, List.forall_mem_cons.mpr ⟨lw_p42, List.forall_mem_cons.mpr ⟨lw_p43, List.forall_mem_cons.mpr ⟨lw_p44, List.forall_mem_cons.mpr ⟨lw_p45, List.forall_mem_cons.mpr ⟨lw_p46, List.forall_mem_cons.mpr ⟨lw_p47, fun _ h => absurd h List.not_mem_nil⟩⟩⟩⟩⟩⟩⟩⟩⟩⟩⟩⟩⟩⟩⟩⟩
theorem lw_p48 : lw_okq (⟨"JoinedLightModel", "numbered", "(I)Z"⟩, 21) := ⟨⟨by decide +kernel, by decide +kernel⟩, List.mem_of_getElem? (i := 604) (by decide +kernel), List.mem_of_getElem? (i := 909) (by decide +kernel), List.mem_of_getElem? (i := 910) (by decide +kernel)⟩
theorem lw_p49 : lw_okq (⟨"JoinedLightModel", "sign", "(I)Z"⟩, 21) := ⟨⟨by decide +kernel, by decide +kernel⟩, List.mem_of_getElem? (i := 604) (by decide +kernel), List.mem_of_getElem? (i := 913) (by decide +kernel), List.mem_of_getElem? (i := 914) (by decide +kernel)⟩
theorem lw_p50 : lw_okq (⟨"JoinedLightModel", "calls", "()I"⟩, 21) := ⟨⟨by decide +kernel, by decide +kernel⟩, List.mem_of_getElem? (i := 604) (by decide +kernel), List.mem_of_getElem? (i := 917) (by decide +kernel), List.mem_of_getElem? (i := 918) (by decide +kernel)⟩
def lw_privs_4 : List (MethodName × Nat) := [(⟨"JoinedLightModel", "numbered", "(I)Z"⟩, 21), (⟨"JoinedLightModel", "sign", "(I)Z"⟩, 21), (⟨"JoinedLightModel", "calls", "()I"⟩, 21)]
theorem lw_r4 : ∀ q ∈ lw_privs_4, lw_okq q := List.forall_mem_cons.mpr ⟨lw_p48, List.forall_mem_cons.mpr ⟨lw_p49, List.forall_mem_cons.mpr ⟨lw_p50, fun _ h => absurd h List.not_mem_nil⟩⟩⟩
def lw_privs : List (MethodName × Nat) := lw_privs_1 ++ (lw_privs_2 ++ (lw_privs_3 ++ (lw_privs_4)))
def lw_tbl : List Cond := k2_sels lw_privs ++ tables_1
theorem lw_privs_ok : ∀ q ∈ lw_privs, lw_okq q := by
  show ∀ q ∈ lw_privs_1 ++ (lw_privs_2 ++ (lw_privs_3 ++ (lw_privs_4))), lw_okq q
  exact List.forall_mem_append.mpr ⟨lw_r1, List.forall_mem_append.mpr ⟨lw_r2, List.forall_mem_append.mpr ⟨lw_r3, lw_r4⟩⟩⟩
/-- the streams that the claim lets the run draw from -/
abbrev lw_cs : List Choice := [Jvm.Choice.named "NaN.bits"]
theorem lw_bits : nanBits ∈ lw_cs := by first | decide | exact List.mem_cons_self | simp [lw_cs, nanBits]
end
section
/-! ===== BEGIN words of one list among another's, by their places ===== -/
theorem goodIn_r {big : List Cond} (ws : List Cond) (ps : List Nat) (hp : ws = ps.filterMap (fun i => big[i]?)) (h : ws.all goodWord = true) : GoodIn big ws := by
  intro w hw
  have h1 := List.all_eq_true.mp h w hw
  rw [hp] at hw
  obtain ⟨i, -, hi⟩ := List.mem_filterMap.mp hw
  have hm : w ∈ big := by first | exact List.mem_of_getElem? hi | exact List.getElem?_mem hi
  exact ⟨hm, good_of_word h1⟩
theorem goodIn_app {big a b : List Cond} (ha : GoodIn big a) (hb : GoodIn big b) : GoodIn big (a ++ b) := fun w h => (List.mem_append.mp h).elim (ha w) (hb w)
theorem goodIn_ca {big a b : List Cond} {c : Cond} (ha : GoodIn big (c :: a)) (hb : GoodIn big b) : GoodIn big (c :: (a ++ b)) := fun w h => (List.mem_cons.mp h).elim (fun e => ha w (List.mem_cons.mpr (Or.inl e))) (fun h => (List.mem_append.mp h).elim (fun h => ha w (List.mem_cons.mpr (Or.inr h))) (hb w))
theorem goodIn_sub {big ws : List Cond} (hm : ∀ w ∈ ws, w ∈ big) (h : ws.all goodWord = true) : GoodIn big ws := fun w hw => ⟨hm w hw, good_of_word (List.all_eq_true.mp h w hw)⟩
/-! ===== END ===== -/

/-! ===== BEGIN printed: names, fields, word lists, decode rows ===== -/
def RX0 : String := "JoinedLight$Bench"
def TX0 : u_T := fun k => match k with
  | 0 => ("JoinedLight$Bench", "colours", "[I", true)
  | 1 => ("JoinedLight$Bench", "lights", "[I", true)
  | 2 => ("JoinedLight$Bench", "lineCount", "I", false)
  | 3 => ("JoinedLight$Bench", "places", "[I", true)
  | 4 => ("JoinedLight$Bench", "kinds", "[I", true)
  | 5 => ("JoinedLight$Bench", "firsts", "[I", true)
  | 6 => ("JoinedLight$Bench", "seconds", "[I", true)
  | 7 => ("JoinedLight$Bench", "turns", "[I", true)
  | 8 => ("JoinedLight$Bench", "thingCount", "I", false)
  | _ => ("JoinedLight$Bench", "cellWidth", "I", false)
def tyX0 : Nat → FieldType := fun k => match k with
  | 0 => .array .int
  | 1 => .array .int
  | 2 => .int
  | 3 => .array .int
  | 4 => .array .int
  | 5 => .array .int
  | 6 => .array .int
  | 7 => .array .int
  | 8 => .int
  | _ => .int
abbrev wsX00 : List Cond := u_ws RX0 TX0 10
theorem nmX0 : ∀ a, a < 10 → ∀ b, b < 10 → a ≠ b → (TX0 a).2.1 ≠ (TX0 b).2.1 := by decide +kernel
theorem tyX0_ok : ∀ k, k < 10 → parseFieldDescriptor (TX0 k).2.2.1 = some (tyX0 k) := by decide +kernel
abbrev cX0_init : ByteArray := prog_2_method_1_code
def yX0_init : MethodName := ⟨RX0, "<init>", "()V"⟩
abbrev cX0_copyFrom : ByteArray := prog_2_method_2_code
def yX0_copyFrom : MethodName := ⟨RX0, "copyFrom", "(LJoinedLight$Bench;)V"⟩
abbrev cX0_hasLine : ByteArray := prog_2_method_3_code
def yX0_hasLine : MethodName := ⟨RX0, "hasLine", "(I)Z"⟩
abbrev cX0_hasThing : ByteArray := prog_2_method_4_code
def yX0_hasThing : MethodName := ⟨RX0, "hasThing", "(I)Z"⟩
abbrev cX0_indexOf : ByteArray := prog_2_method_5_code
def yX0_indexOf : MethodName := ⟨RX0, "indexOf", "(I)I"⟩
abbrev cX0_thingsAhead : ByteArray := prog_2_method_6_code
def yX0_thingsAhead : MethodName := ⟨RX0, "thingsAhead", "(I)I"⟩
abbrev cX0_cellOf : ByteArray := prog_2_method_7_code
def yX0_cellOf : MethodName := ⟨RX0, "cellOf", "(I)I"⟩
abbrev cX0_lightOfAll : ByteArray := prog_2_method_8_code
def yX0_lightOfAll : MethodName := ⟨RX0, "lightOfAll", "()I"⟩
abbrev cX0_addLine : ByteArray := prog_2_method_9_code
def yX0_addLine : MethodName := ⟨RX0, "addLine", "(II)I"⟩
abbrev cX0_changeLight : ByteArray := prog_2_method_10_code
def yX0_changeLight : MethodName := ⟨RX0, "changeLight", "(II)I"⟩
abbrev cX0_addPrism : ByteArray := prog_2_method_11_code
def yX0_addPrism : MethodName := ⟨RX0, "addPrism", "(IIII)I"⟩
abbrev cX0_addSlit : ByteArray := prog_2_method_12_code
def yX0_addSlit : MethodName := ⟨RX0, "addSlit", "(III)I"⟩
abbrev cX0_addThing : ByteArray := prog_2_method_13_code
def yX0_addThing : MethodName := ⟨RX0, "addThing", "(IIIII)I"⟩
abbrev cX0_copyThing : ByteArray := prog_2_method_14_code
def yX0_copyThing : MethodName := ⟨RX0, "copyThing", "(II)V"⟩
abbrev cX0_removeThing : ByteArray := prog_2_method_15_code
def yX0_removeThing : MethodName := ⟨RX0, "removeThing", "(I)I"⟩
abbrev cX0_moveThing : ByteArray := prog_2_method_16_code
def yX0_moveThing : MethodName := ⟨RX0, "moveThing", "(II)I"⟩
abbrev cX0_changeSetting : ByteArray := prog_2_method_17_code
def yX0_changeSetting : MethodName := ⟨RX0, "changeSetting", "(II)I"⟩
abbrev cX0_bendAt : ByteArray := prog_2_method_18_code
def yX0_bendAt : MethodName := ⟨RX0, "bendAt", "(II)I"⟩
abbrev cX0_whyLostAt : ByteArray := prog_2_method_19_code
def yX0_whyLostAt : MethodName := ⟨RX0, "whyLostAt", "(II)I"⟩
abbrev cX0_isBeyond : ByteArray := prog_2_method_20_code
def yX0_isBeyond : MethodName := ⟨RX0, "isBeyond", "(I)Z"⟩
def RX1 : String := "JoinedLight$Cells"
def TX1 : u_T := fun k => match k with
  | 0 => ("JoinedLight$Cells", "numbers", "[I", true)
  | 1 => ("JoinedLight$Cells", "lights", "[I", true)
  | 2 => ("JoinedLight$Cells", "lines", "[I", true)
  | _ => ("JoinedLight$Cells", "used", "I", false)
def tyX1 : Nat → FieldType := fun k => match k with
  | 0 => .array .int
  | 1 => .array .int
  | 2 => .array .int
  | _ => .int
abbrev wsX10 : List Cond := u_ws RX1 TX1 4
theorem nmX1 : ∀ a, a < 4 → ∀ b, b < 4 → a ≠ b → (TX1 a).2.1 ≠ (TX1 b).2.1 := by decide +kernel
theorem tyX1_ok : ∀ k, k < 4 → parseFieldDescriptor (TX1 k).2.2.1 = some (tyX1 k) := by decide +kernel
abbrev cX1_init : ByteArray := prog_3_method_1_code
def yX1_init : MethodName := ⟨RX1, "<init>", "()V"⟩
abbrev cX1_gather : ByteArray := prog_3_method_2_code
def yX1_gather : MethodName := ⟨RX1, "gather", "(LJoinedLight$Bench;LJoinedLight$Rays;)V"⟩
abbrev cX1_addTo : ByteArray := prog_3_method_3_code
def yX1_addTo : MethodName := ⟨RX1, "addTo", "(III)V"⟩
abbrev cX1_slotOf : ByteArray := prog_3_method_4_code
def yX1_slotOf : MethodName := ⟨RX1, "slotOf", "(I)I"⟩
abbrev cX1_hasSlot : ByteArray := prog_3_method_5_code
def yX1_hasSlot : MethodName := ⟨RX1, "hasSlot", "(I)Z"⟩
abbrev cX1_lightOf : ByteArray := prog_3_method_6_code
def yX1_lightOf : MethodName := ⟨RX1, "lightOf", "(I)I"⟩
abbrev cX1_slotOfRank : ByteArray := prog_3_method_7_code
def yX1_slotOfRank : MethodName := ⟨RX1, "slotOfRank", "(I)I"⟩
abbrev cX1_rankOf : ByteArray := prog_3_method_8_code
def yX1_rankOf : MethodName := ⟨RX1, "rankOf", "(I)I"⟩
def RX2 : String := "JoinedLight$Choice"
def TX2 : u_T := fun k => match k with
  | 0 => ("JoinedLight$Choice", "value", "I", false)
  | 1 => ("JoinedLight$Choice", "arrivals", "I", false)
  | _ => ("JoinedLight$Choice", "spread", "I", false)
def tyX2 : Nat → FieldType := fun k => match k with
  | 0 => .int
  | 1 => .int
  | _ => .int
abbrev wsX20 : List Cond := u_ws RX2 TX2 3
theorem nmX2 : ∀ a, a < 3 → ∀ b, b < 3 → a ≠ b → (TX2 a).2.1 ≠ (TX2 b).2.1 := by decide +kernel
theorem tyX2_ok : ∀ k, k < 3 → parseFieldDescriptor (TX2 k).2.2.1 = some (tyX2 k) := by decide +kernel
abbrev cX2_init : ByteArray := prog_4_method_1_code
def yX2_init : MethodName := ⟨RX2, "<init>", "()V"⟩
abbrev cX2_clear : ByteArray := prog_4_method_2_code
def yX2_clear : MethodName := ⟨RX2, "clear", "()V"⟩
abbrev cX2_offer : ByteArray := prog_4_method_3_code
def yX2_offer : MethodName := ⟨RX2, "offer", "(III)V"⟩
def RX3 : String := "JoinedLight$History"
def TX3 : u_T := fun k => match k with
  | 0 => ("JoinedLight$History", "rooms", "[LJoinedLight$Bench;", true)
  | _ => ("JoinedLight$History", "states", "I", false)
def tyX3 : Nat → FieldType := fun k => match k with
  | 0 => .array (.object "JoinedLight$Bench")
  | _ => .int
abbrev wsX30 : List Cond := u_ws RX3 TX3 2
theorem nmX3 : ∀ a, a < 2 → ∀ b, b < 2 → a ≠ b → (TX3 a).2.1 ≠ (TX3 b).2.1 := by decide +kernel
theorem tyX3_ok : ∀ k, k < 2 → parseFieldDescriptor (TX3 k).2.2.1 = some (tyX3 k) := by decide +kernel
abbrev cX3_init : ByteArray := prog_5_method_1_code
def yX3_init : MethodName := ⟨RX3, "<init>", "()V"⟩
abbrev cX3_record : ByteArray := prog_5_method_2_code
def yX3_record : MethodName := ⟨RX3, "record", "(LJoinedLight$Bench;)V"⟩
abbrev cX3_dropOldest : ByteArray := prog_5_method_3_code
def yX3_dropOldest : MethodName := ⟨RX3, "dropOldest", "()V"⟩
abbrev cX3_takeLatest : ByteArray := prog_5_method_4_code
def yX3_takeLatest : MethodName := ⟨RX3, "takeLatest", "(LJoinedLight$Bench;)Z"⟩
def RX4 : String := "JoinedLight$Rays"
def TX4 : u_T := fun k => match k with
  | 0 => ("JoinedLight$Rays", "heights", "[I", true)
  | 1 => ("JoinedLight$Rays", "slopes", "[I", true)
  | 2 => ("JoinedLight$Rays", "lostAt", "[I", true)
  | 3 => ("JoinedLight$Rays", "lostWhy", "[I", true)
  | _ => ("JoinedLight$Rays", "followed", "I", false)
def tyX4 : Nat → FieldType := fun k => match k with
  | 0 => .array .int
  | 1 => .array .int
  | 2 => .array .int
  | 3 => .array .int
  | _ => .int
abbrev wsX40 : List Cond := u_ws RX4 TX4 5
theorem nmX4 : ∀ a, a < 5 → ∀ b, b < 5 → a ≠ b → (TX4 a).2.1 ≠ (TX4 b).2.1 := by decide +kernel
theorem tyX4_ok : ∀ k, k < 5 → parseFieldDescriptor (TX4 k).2.2.1 = some (tyX4 k) := by decide +kernel
abbrev cX4_init : ByteArray := prog_6_method_1_code
def yX4_init : MethodName := ⟨RX4, "<init>", "()V"⟩
abbrev cX4_follow : ByteArray := prog_6_method_2_code
def yX4_follow : MethodName := ⟨RX4, "follow", "(LJoinedLight$Bench;)V"⟩
abbrev cX4_followLine : ByteArray := prog_6_method_3_code
def yX4_followLine : MethodName := ⟨RX4, "followLine", "(LJoinedLight$Bench;II)V"⟩
abbrev cX4_rise : ByteArray := prog_6_method_4_code
def yX4_rise : MethodName := ⟨RX4, "rise", "(II)I"⟩
abbrev cX4_finish : ByteArray := prog_6_method_5_code
def yX4_finish : MethodName := ⟨RX4, "finish", "(III)V"⟩
abbrev cX4_has : ByteArray := prog_6_method_6_code
def yX4_has : MethodName := ⟨RX4, "has", "(I)Z"⟩
abbrev cX4_comes : ByteArray := prog_6_method_7_code
def yX4_comes : MethodName := ⟨RX4, "comes", "(I)Z"⟩
abbrev cX4_linesOnScreen : ByteArray := prog_6_method_8_code
def yX4_linesOnScreen : MethodName := ⟨RX4, "linesOnScreen", "()I"⟩
abbrev cX4_linesAt : ByteArray := prog_6_method_9_code
def yX4_linesAt : MethodName := ⟨RX4, "linesAt", "(LJoinedLight$Bench;I)I"⟩
abbrev cX4_lightLostAt : ByteArray := prog_6_method_10_code
def yX4_lightLostAt : MethodName := ⟨RX4, "lightLostAt", "(LJoinedLight$Bench;I)I"⟩
abbrev cX4_lightOnScreen : ByteArray := prog_6_method_11_code
def yX4_lightOnScreen : MethodName := ⟨RX4, "lightOnScreen", "(LJoinedLight$Bench;)I"⟩
abbrev cX4_spread : ByteArray := prog_6_method_12_code
def yX4_spread : MethodName := ⟨RX4, "spread", "()I"⟩
abbrev cX4_slopesAreSame : ByteArray := prog_6_method_13_code
def yX4_slopesAreSame : MethodName := ⟨RX4, "slopesAreSame", "()Z"⟩
def RX5 : String := "JoinedLight$Text"
def TX5 : u_T := fun k => match k with
  | 0 => ("JoinedLight$Text", "signs", "[C", true)
  | 1 => ("JoinedLight$Text", "length", "I", false)
  | 2 => ("JoinedLight$Text", "letter", "C", false)
  | 3 => ("JoinedLight$Text", "numbers", "[I", true)
  | _ => ("JoinedLight$Text", "next", "I", false)
def tyX5 : Nat → FieldType := fun k => match k with
  | 0 => .array .char
  | 1 => .int
  | 2 => .char
  | 3 => .array .int
  | _ => .int
abbrev wsX50 : List Cond := u_ws RX5 TX5 5
theorem nmX5 : ∀ a, a < 5 → ∀ b, b < 5 → a ≠ b → (TX5 a).2.1 ≠ (TX5 b).2.1 := by decide +kernel
theorem tyX5_ok : ∀ k, k < 5 → parseFieldDescriptor (TX5 k).2.2.1 = some (tyX5 k) := by decide +kernel
abbrev cX5_init : ByteArray := prog_7_method_1_code
def yX5_init : MethodName := ⟨RX5, "<init>", "()V"⟩
abbrev cX5_append : ByteArray := prog_7_method_2_code
def yX5_append : MethodName := ⟨RX5, "append", "(C)Z"⟩
abbrev cX5_signAt : ByteArray := prog_7_method_3_code
def yX5_signAt : MethodName := ⟨RX5, "signAt", "(I)C"⟩
abbrev cX5_readOrder : ByteArray := prog_7_method_4_code
def yX5_readOrder : MethodName := ⟨RX5, "readOrder", "(I)Z"⟩
abbrev cX5_numbersOf : ByteArray := prog_7_method_5_code
def yX5_numbersOf : MethodName := ⟨RX5, "numbersOf", "(C)I"⟩
abbrev cX5_readNumber : ByteArray := prog_7_method_6_code
def yX5_readNumber : MethodName := ⟨RX5, "readNumber", "(I)Z"⟩
abbrev cX5_readSign : ByteArray := prog_7_method_7_code
def yX5_readSign : MethodName := ⟨RX5, "readSign", "(C)Z"⟩
def RX6 : String := "JoinedLight"
def TX6 : u_T := fun k => match k with
  | 0 => ("JoinedLight", "bench", "LJoinedLight$Bench;", true)
  | 1 => ("JoinedLight", "trial", "LJoinedLight$Bench;", true)
  | 2 => ("JoinedLight", "rays", "LJoinedLight$Rays;", true)
  | 3 => ("JoinedLight", "cells", "LJoinedLight$Cells;", true)
  | 4 => ("JoinedLight", "choice", "LJoinedLight$Choice;", true)
  | 5 => ("JoinedLight", "history", "LJoinedLight$History;", true)
  | 6 => ("JoinedLight", "text", "LJoinedLight$Text;", true)
  | 7 => ("JoinedLight", "faultPosition", "I", false)
  | 8 => ("JoinedLight", "faultReason", "I", false)
  | 9 => ("JoinedLight", "faultCause", "I", false)
  | _ => ("JoinedLight", "ordersDone", "I", false)
def tyX6 : Nat → FieldType := fun k => match k with
  | 0 => .object "JoinedLight$Bench"
  | 1 => .object "JoinedLight$Bench"
  | 2 => .object "JoinedLight$Rays"
  | 3 => .object "JoinedLight$Cells"
  | 4 => .object "JoinedLight$Choice"
  | 5 => .object "JoinedLight$History"
  | 6 => .object "JoinedLight$Text"
  | 7 => .int
  | 8 => .int
  | 9 => .int
  | _ => .int
abbrev wsX60 : List Cond := u_ws RX6 TX6 11
theorem nmX6 : ∀ a, a < 11 → ∀ b, b < 11 → a ≠ b → (TX6 a).2.1 ≠ (TX6 b).2.1 := by decide +kernel
theorem tyX6_ok : ∀ k, k < 11 → parseFieldDescriptor (TX6 k).2.2.1 = some (tyX6 k) := by decide +kernel
abbrev cX6_init : ByteArray := prog_1_method_1_code
def yX6_init : MethodName := ⟨RX6, "<init>", "()V"⟩
abbrev cX6_line : ByteArray := prog_1_method_2_code
def yX6_line : MethodName := ⟨RX6, "line", "(II)I"⟩
abbrev cX6_dim : ByteArray := prog_1_method_3_code
def yX6_dim : MethodName := ⟨RX6, "dim", "(II)I"⟩
abbrev cX6_prism : ByteArray := prog_1_method_4_code
def yX6_prism : MethodName := ⟨RX6, "prism", "(IIII)I"⟩
abbrev cX6_slit : ByteArray := prog_1_method_5_code
def yX6_slit : MethodName := ⟨RX6, "slit", "(III)I"⟩
abbrev cX6_take : ByteArray := prog_1_method_6_code
def yX6_take : MethodName := ⟨RX6, "take", "(I)I"⟩
abbrev cX6_move : ByteArray := prog_1_method_7_code
def yX6_move : MethodName := ⟨RX6, "move", "(II)I"⟩
abbrev cX6_set : ByteArray := prog_1_method_8_code
def yX6_set : MethodName := ⟨RX6, "set", "(II)I"⟩
abbrev cX6_lineOf : ByteArray := prog_1_method_9_code
def yX6_lineOf : MethodName := ⟨RX6, "lineOf", "(II)I"⟩
abbrev cX6_thing : ByteArray := prog_1_method_10_code
def yX6_thing : MethodName := ⟨RX6, "thing", "(II)I"⟩
abbrev cX6_height : ByteArray := prog_1_method_11_code
def yX6_height : MethodName := ⟨RX6, "height", "(II)I"⟩
abbrev cX6_light : ByteArray := prog_1_method_12_code
def yX6_light : MethodName := ⟨RX6, "light", "(I)I"⟩
abbrev cX6_bright : ByteArray := prog_1_method_13_code
def yX6_bright : MethodName := ⟨RX6, "bright", "(II)I"⟩
abbrev cX6_bending : ByteArray := prog_1_method_14_code
def yX6_bending : MethodName := ⟨RX6, "bending", "(II)I"⟩
abbrev cX6_best : ByteArray := prog_1_method_15_code
def yX6_best : MethodName := ⟨RX6, "best", "(II)I"⟩
abbrev cX6_alone : ByteArray := prog_1_method_16_code
def yX6_alone : MethodName := ⟨RX6, "alone", "(II)I"⟩
abbrev cX6_tuned : ByteArray := prog_1_method_17_code
def yX6_tuned : MethodName := ⟨RX6, "tuned", "(I)I"⟩
abbrev cX6_share : ByteArray := prog_1_method_18_code
def yX6_share : MethodName := ⟨RX6, "share", "()I"⟩
abbrev cX6_count : ByteArray := prog_1_method_19_code
def yX6_count : MethodName := ⟨RX6, "count", "(I)I"⟩
abbrev cX6_undo : ByteArray := prog_1_method_20_code
def yX6_undo : MethodName := ⟨RX6, "undo", "()I"⟩
abbrev cX6_type : ByteArray := prog_1_method_21_code
def yX6_type : MethodName := ⟨RX6, "type", "(I)I"⟩
abbrev cX6_clearText : ByteArray := prog_1_method_22_code
def yX6_clearText : MethodName := ⟨RX6, "clearText", "()I"⟩
abbrev cX6_fault : ByteArray := prog_1_method_23_code
def yX6_fault : MethodName := ⟨RX6, "fault", "(I)I"⟩
abbrev cX6_play : ByteArray := prog_1_method_24_code
def yX6_play : MethodName := ⟨RX6, "play", "()I"⟩
abbrev cX6_within : ByteArray := prog_1_method_25_code
def yX6_within : MethodName := ⟨RX6, "within", "(III)Z"⟩
abbrev cX6_oneIf : ByteArray := prog_1_method_26_code
def yX6_oneIf : MethodName := ⟨RX6, "oneIf", "(Z)I"⟩
abbrev cX6_bendingOf : ByteArray := prog_1_method_27_code
def yX6_bendingOf : MethodName := ⟨RX6, "bendingOf", "(II)I"⟩
abbrev cX6_keepTrial : ByteArray := prog_1_method_28_code
def yX6_keepTrial : MethodName := ⟨RX6, "keepTrial", "(I)I"⟩
abbrev cX6_turnOfThing : ByteArray := prog_1_method_29_code
def yX6_turnOfThing : MethodName := ⟨RX6, "turnOfThing", "(I)I"⟩
abbrev cX6_heightAt : ByteArray := prog_1_method_30_code
def yX6_heightAt : MethodName := ⟨RX6, "heightAt", "(II)I"⟩
abbrev cX6_offerPlace : ByteArray := prog_1_method_31_code
def yX6_offerPlace : MethodName := ⟨RX6, "offerPlace", "(II)V"⟩
abbrev cX6_offerTrial : ByteArray := prog_1_method_32_code
def yX6_offerTrial : MethodName := ⟨RX6, "offerTrial", "(I)V"⟩
abbrev cX6_countOfRays : ByteArray := prog_1_method_33_code
def yX6_countOfRays : MethodName := ⟨RX6, "countOfRays", "(I)I"⟩
abbrev cX6_lightIsJoined : ByteArray := prog_1_method_34_code
def yX6_lightIsJoined : MethodName := ⟨RX6, "lightIsJoined", "()Z"⟩
abbrev cX6_bitsOf : ByteArray := prog_1_method_35_code
def yX6_bitsOf : MethodName := ⟨RX6, "bitsOf", "(F)I"⟩
abbrev cX6_tryText : ByteArray := prog_1_method_36_code
def yX6_tryText : MethodName := ⟨RX6, "tryText", "()V"⟩
abbrev cX6_noteFault : ByteArray := prog_1_method_37_code
def yX6_noteFault : MethodName := ⟨RX6, "noteFault", "(III)V"⟩
abbrev cX6_doOrder : ByteArray := prog_1_method_38_code
def yX6_doOrder : MethodName := ⟨RX6, "doOrder", "()I"⟩
def RX7 : String := "JoinedLightModel"
def TX7 : u_T := fun k => match k with
  | 0 => ("JoinedLightModel", "s", "[I", true)
  | 1 => ("JoinedLightModel", "past", "[I", true)
  | 2 => ("JoinedLightModel", "held", "[I", true)
  | 3 => ("JoinedLightModel", "tried", "[I", true)
  | 4 => ("JoinedLightModel", "pasts", "I", false)
  | 5 => ("JoinedLightModel", "runs", "Z", false)
  | 6 => ("JoinedLightModel", "text", "[I", true)
  | 7 => ("JoinedLightModel", "typed", "I", false)
  | 8 => ("JoinedLightModel", "place", "I", false)
  | 9 => ("JoinedLightModel", "height", "I", false)
  | 10 => ("JoinedLightModel", "slope", "I", false)
  | 11 => ("JoinedLightModel", "why", "I", false)
  | 12 => ("JoinedLightModel", "cells", "[I", true)
  | 13 => ("JoinedLightModel", "sets", "[I", true)
  | 14 => ("JoinedLightModel", "spot", "I", false)
  | 15 => ("JoinedLightModel", "from", "I", false)
  | 16 => ("JoinedLightModel", "reason", "I", false)
  | 17 => ("JoinedLightModel", "cause", "I", false)
  | 18 => ("JoinedLightModel", "orders", "I", false)
  | 19 => ("JoinedLightModel", "order", "I", false)
  | _ => ("JoinedLightModel", "told", "[I", true)
def tyX7 : Nat → FieldType := fun k => match k with
  | 0 => .array .int
  | 1 => .array .int
  | 2 => .array .int
  | 3 => .array .int
  | 4 => .int
  | 5 => .boolean
  | 6 => .array .int
  | 7 => .int
  | 8 => .int
  | 9 => .int
  | 10 => .int
  | 11 => .int
  | 12 => .array .int
  | 13 => .array .int
  | 14 => .int
  | 15 => .int
  | 16 => .int
  | 17 => .int
  | 18 => .int
  | 19 => .int
  | _ => .array .int
abbrev wsX70 : List Cond := u_ws RX7 TX7 21
theorem nmX7 : ∀ a, a < 21 → ∀ b, b < 21 → a ≠ b → (TX7 a).2.1 ≠ (TX7 b).2.1 := by decide +kernel
theorem tyX7_ok : ∀ k, k < 21 → parseFieldDescriptor (TX7 k).2.2.1 = some (tyX7 k) := by decide +kernel
abbrev cX7_init : ByteArray := prog_9_method_1_code
def yX7_init : MethodName := ⟨RX7, "<init>", "()V"⟩
abbrev cX7_in : ByteArray := prog_9_method_3_code
def yX7_in : MethodName := ⟨RX7, "in", "(III)Z"⟩
abbrev cX7_floor : ByteArray := prog_9_method_4_code
def yX7_floor : MethodName := ⟨RX7, "floor", "(II)I"⟩
abbrev cX7_copies : ByteArray := prog_9_method_5_code
def yX7_copies : MethodName := ⟨RX7, "copies", "([I[I)V"⟩
abbrev cX7_changes : ByteArray := prog_9_method_6_code
def yX7_changes : MethodName := ⟨RX7, "changes", "()V"⟩
abbrev cX7_ones : ByteArray := prog_9_method_7_code
def yX7_ones : MethodName := ⟨RX7, "ones", "(I)I"⟩
abbrev cX7_isLine : ByteArray := prog_9_method_8_code
def yX7_isLine : MethodName := ⟨RX7, "isLine", "(I)Z"⟩
abbrev cX7_colour : ByteArray := prog_9_method_9_code
def yX7_colour : MethodName := ⟨RX7, "colour", "(I)I"⟩
abbrev cX7_lightOf : ByteArray := prog_9_method_10_code
def yX7_lightOf : MethodName := ⟨RX7, "lightOf", "(I)I"⟩
abbrev cX7_of : ByteArray := prog_9_method_11_code
def yX7_of : MethodName := ⟨RX7, "of", "(II)I"⟩
abbrev cX7_at : ByteArray := prog_9_method_12_code
def yX7_at : MethodName := ⟨RX7, "at", "(I)I"⟩
abbrev cX7_line : ByteArray := prog_9_method_13_code
def yX7_line : MethodName := ⟨RX7, "line", "(II)I"⟩
abbrev cX7_dim : ByteArray := prog_9_method_14_code
def yX7_dim : MethodName := ⟨RX7, "dim", "(II)I"⟩
abbrev cX7_opens : ByteArray := prog_9_method_15_code
def yX7_opens : MethodName := ⟨RX7, "opens", "(I)I"⟩
abbrev cX7_takesOut : ByteArray := prog_9_method_16_code
def yX7_takesOut : MethodName := ⟨RX7, "takesOut", "(I)V"⟩
abbrev cX7_sets : ByteArray := prog_9_method_17_code
def yX7_sets : MethodName := ⟨RX7, "sets", "(IIIIII)V"⟩
abbrev cX7_lays : ByteArray := prog_9_method_18_code
def yX7_lays : MethodName := ⟨RX7, "lays", "(IIIII)I"⟩
abbrev cX7_isPlace : ByteArray := prog_9_method_19_code
def yX7_isPlace : MethodName := ⟨RX7, "isPlace", "(I)Z"⟩
abbrev cX7_prism : ByteArray := prog_9_method_20_code
def yX7_prism : MethodName := ⟨RX7, "prism", "(IIII)I"⟩
abbrev cX7_slit : ByteArray := prog_9_method_21_code
def yX7_slit : MethodName := ⟨RX7, "slit", "(III)I"⟩
abbrev cX7_take : ByteArray := prog_9_method_22_code
def yX7_take : MethodName := ⟨RX7, "take", "(I)I"⟩
abbrev cX7_moves : ByteArray := prog_9_method_23_code
def yX7_moves : MethodName := ⟨RX7, "moves", "(II)I"⟩
abbrev cX7_move : ByteArray := prog_9_method_24_code
def yX7_move : MethodName := ⟨RX7, "move", "(II)I"⟩
abbrev cX7_set : ByteArray := prog_9_method_25_code
def yX7_set : MethodName := ⟨RX7, "set", "(II)I"⟩
abbrev cX7_bends : ByteArray := prog_9_method_26_code
def yX7_bends : MethodName := ⟨RX7, "bends", "(II)I"⟩
abbrev cX7_goes : ByteArray := prog_9_method_27_code
def yX7_goes : MethodName := ⟨RX7, "goes", "(I)V"⟩
abbrev cX7_follows : ByteArray := prog_9_method_28_code
def yX7_follows : MethodName := ⟨RX7, "follows", "(II)V"⟩
abbrev cX7_cell : ByteArray := prog_9_method_29_code
def yX7_cell : MethodName := ⟨RX7, "cell", "()I"⟩
abbrev cX7_lineOf : ByteArray := prog_9_method_30_code
def yX7_lineOf : MethodName := ⟨RX7, "lineOf", "(II)I"⟩
abbrev cX7_coming : ByteArray := prog_9_method_31_code
def yX7_coming : MethodName := ⟨RX7, "coming", "(I)I"⟩
abbrev cX7_lightIn : ByteArray := prog_9_method_32_code
def yX7_lightIn : MethodName := ⟨RX7, "lightIn", "(I)I"⟩
abbrev cX7_lostAt : ByteArray := prog_9_method_33_code
def yX7_lostAt : MethodName := ⟨RX7, "lostAt", "(I)I"⟩
abbrev cX7_thing : ByteArray := prog_9_method_34_code
def yX7_thing : MethodName := ⟨RX7, "thing", "(II)I"⟩
abbrev cX7_height : ByteArray := prog_9_method_35_code
def yX7_height : MethodName := ⟨RX7, "height", "(II)I"⟩
abbrev cX7_inCell : ByteArray := prog_9_method_36_code
def yX7_inCell : MethodName := ⟨RX7, "inCell", "(I)I"⟩
abbrev cX7_light : ByteArray := prog_9_method_37_code
def yX7_light : MethodName := ⟨RX7, "light", "(I)I"⟩
abbrev cX7_laysCells : ByteArray := prog_9_method_38_code
def yX7_laysCells : MethodName := ⟨RX7, "laysCells", "()I"⟩
abbrev cX7_isBrighter : ByteArray := prog_9_method_39_code
def yX7_isBrighter : MethodName := ⟨RX7, "isBrighter", "(II)Z"⟩
abbrev cX7_bright : ByteArray := prog_9_method_40_code
def yX7_bright : MethodName := ⟨RX7, "bright", "(II)I"⟩
abbrev cX7_bending : ByteArray := prog_9_method_41_code
def yX7_bending : MethodName := ⟨RX7, "bending", "(II)I"⟩
abbrev cX7_spread : ByteArray := prog_9_method_42_code
def yX7_spread : MethodName := ⟨RX7, "spread", "()I"⟩
abbrev cX7_best : ByteArray := prog_9_method_43_code
def yX7_best : MethodName := ⟨RX7, "best", "(II)I"⟩
abbrev cX7_alone : ByteArray := prog_9_method_44_code
def yX7_alone : MethodName := ⟨RX7, "alone", "(II)I"⟩
abbrev cX7_tuned : ByteArray := prog_9_method_45_code
def yX7_tuned : MethodName := ⟨RX7, "tuned", "(I)I"⟩
abbrev cX7_allLines : ByteArray := prog_9_method_46_code
def yX7_allLines : MethodName := ⟨RX7, "allLines", "()I"⟩
abbrev cX7_share : ByteArray := prog_9_method_47_code
def yX7_share : MethodName := ⟨RX7, "share", "()I"⟩
abbrev cX7_isJoined : ByteArray := prog_9_method_48_code
def yX7_isJoined : MethodName := ⟨RX7, "isJoined", "()Z"⟩
abbrev cX7_isAsItWas : ByteArray := prog_9_method_49_code
def yX7_isAsItWas : MethodName := ⟨RX7, "isAsItWas", "()Z"⟩
abbrev cX7_lostAtThings : ByteArray := prog_9_method_50_code
def yX7_lostAtThings : MethodName := ⟨RX7, "lostAtThings", "()I"⟩
abbrev cX7_count : ByteArray := prog_9_method_51_code
def yX7_count : MethodName := ⟨RX7, "count", "(I)I"⟩
abbrev cX7_undo : ByteArray := prog_9_method_52_code
def yX7_undo : MethodName := ⟨RX7, "undo", "()I"⟩
abbrev cX7_type : ByteArray := prog_9_method_53_code
def yX7_type : MethodName := ⟨RX7, "type", "(I)I"⟩
abbrev cX7_clearText : ByteArray := prog_9_method_54_code
def yX7_clearText : MethodName := ⟨RX7, "clearText", "()I"⟩
abbrev cX7_isAt : ByteArray := prog_9_method_55_code
def yX7_isAt : MethodName := ⟨RX7, "isAt", "(II)Z"⟩
abbrev cX7_sign : ByteArray := prog_9_method_56_code
def yX7_sign : MethodName := ⟨RX7, "sign", "(I)Z"⟩
abbrev cX7_numbered : ByteArray := prog_9_method_57_code
def yX7_numbered : MethodName := ⟨RX7, "numbered", "(I)Z"⟩
abbrev cX7_numbersOf : ByteArray := prog_9_method_58_code
def yX7_numbersOf : MethodName := ⟨RX7, "numbersOf", "(I)I"⟩
abbrev cX7_reads : ByteArray := prog_9_method_59_code
def yX7_reads : MethodName := ⟨RX7, "reads", "()Z"⟩
abbrev cX7_calls : ByteArray := prog_9_method_60_code
def yX7_calls : MethodName := ⟨RX7, "calls", "()I"⟩
abbrev cX7_plays : ByteArray := prog_9_method_61_code
def yX7_plays : MethodName := ⟨RX7, "plays", "()Z"⟩
abbrev cX7_fault : ByteArray := prog_9_method_62_code
def yX7_fault : MethodName := ⟨RX7, "fault", "(I)I"⟩
abbrev cX7_play : ByteArray := prog_9_method_63_code
def yX7_play : MethodName := ⟨RX7, "play", "()I"⟩
def RJxf58ca : String := "java/lang/Float"
def TJxf58ca : u_T := fun k => match k with
  | _ => ("", "", "", false)
def tyJxf58ca : Nat → FieldType := fun k => match k with
  | _ => .int
abbrev wsJxf58ca0 : List Cond := u_ws RJxf58ca TJxf58ca 0
theorem nmJxf58ca : ∀ a, a < 0 → ∀ b, b < 0 → a ≠ b → (TJxf58ca a).2.1 ≠ (TJxf58ca b).2.1 := by decide +kernel
theorem tyJxf58ca_ok : ∀ k, k < 0 → parseFieldDescriptor (TJxf58ca k).2.2.1 = some (tyJxf58ca k) := by decide +kernel
abbrev cJxf58ca_isNaN_12338 : ByteArray := prog_10_method_6_code
def yJxf58ca_isNaN_12338 : MethodName := ⟨RJxf58ca, "isNaN", "(F)Z"⟩
abbrev cJxf58ca_floatToIntBits_5c35a : ByteArray := prog_10_method_24_code
def yJxf58ca_floatToIntBits_5c35a : MethodName := ⟨RJxf58ca, "floatToIntBits", "(F)I"⟩
def RJ6 : String := "java/lang/Integer"
def TJ6 : u_T := fun k => match k with
  | _ => ("", "", "", false)
def tyJ6 : Nat → FieldType := fun k => match k with
  | _ => .int
abbrev wsJ60 : List Cond := u_ws RJ6 TJ6 0
theorem nmJ6 : ∀ a, a < 0 → ∀ b, b < 0 → a ≠ b → (TJ6 a).2.1 ≠ (TJ6 b).2.1 := by decide +kernel
theorem tyJ6_ok : ∀ k, k < 0 → parseFieldDescriptor (TJ6 k).2.2.1 = some (tyJ6 k) := by decide +kernel
abbrev cJ6_bitCount_0f7a4 : ByteArray := prog_11_method_49_code
def yJ6_bitCount_0f7a4 : MethodName := ⟨RJ6, "bitCount", "(I)I"⟩
def RJ9 : String := "java/lang/Math"
def TJ9 : u_T := fun k => match k with
  | _ => ("", "", "", false)
def tyJ9 : Nat → FieldType := fun k => match k with
  | _ => .int
abbrev wsJ90 : List Cond := u_ws RJ9 TJ9 0
theorem nmJ9 : ∀ a, a < 0 → ∀ b, b < 0 → a ≠ b → (TJ9 a).2.1 ≠ (TJ9 b).2.1 := by decide +kernel
theorem tyJ9_ok : ∀ k, k < 0 → parseFieldDescriptor (TJ9 k).2.2.1 = some (tyJ9 k) := by decide +kernel
abbrev cJ9_floorDiv_7cf53 : ByteArray := prog_12_method_47_code
def yJ9_floorDiv_7cf53 : MethodName := ⟨RJ9, "floorDiv", "(II)I"⟩
abbrev cJ9_max_7cf53 : ByteArray := prog_12_method_65_code
def yJ9_max_7cf53 : MethodName := ⟨RJ9, "max", "(II)I"⟩
abbrev cJ9_min_7cf53 : ByteArray := prog_12_method_69_code
def yJ9_min_7cf53 : MethodName := ⟨RJ9, "min", "(II)I"⟩
def RJ10 : String := "java/lang/System"
def TJ10 : u_T := fun k => match k with
  | _ => ("", "", "", false)
def tyJ10 : Nat → FieldType := fun k => match k with
  | _ => .int
abbrev wsJ100 : List Cond := u_ws RJ10 TJ10 0
theorem nmJ10 : ∀ a, a < 0 → ∀ b, b < 0 → a ≠ b → (TJ10 a).2.1 ≠ (TJ10 b).2.1 := by decide +kernel
theorem tyJ10_ok : ∀ k, k < 0 → parseFieldDescriptor (TJ10 k).2.2.1 = some (tyJ10 k) := by decide +kernel
def RL : String := "JoinedLightLaw"
abbrev cL_law : ByteArray := code
def yL_law : MethodName := ⟨RL, "law", "([I)Z"⟩
def wsX0_init : List Cond := .code yX0_init cX0_init 1 none :: ([.methodLink RX0 3 objectInit, .instanceMethod objectInit, .code objectInit ⟨#[0xb1]⟩ 1 none, .arrayClass .int, .fieldLink RX0 9 "JoinedLight$Bench" "colours" "[I", .fieldLink RX0 15 "JoinedLight$Bench" "lights" "[I", .fieldLink RX0 18 "JoinedLight$Bench" "lineCount" "I", .fieldLink RX0 22 "JoinedLight$Bench" "places" "[I", .fieldLink RX0 25 "JoinedLight$Bench" "kinds" "[I", .fieldLink RX0 28 "JoinedLight$Bench" "firsts" "[I", .fieldLink RX0 31 "JoinedLight$Bench" "seconds" "[I", .fieldLink RX0 34 "JoinedLight$Bench" "turns" "[I", .fieldLink RX0 37 "JoinedLight$Bench" "thingCount" "I", .fieldLink RX0 40 "JoinedLight$Bench" "cellWidth" "I"] ++ wsX00)
def wsX0_copyFrom : List Cond := .code yX0_copyFrom cX0_copyFrom 2 none :: ([.fieldLink RX0 9 "JoinedLight$Bench" "colours" "[I", .methodLink RX0 43 arraycopyName, .native arraycopyName, .static arraycopyName, .initialized "java/lang/System", .fieldLink RX0 15 "JoinedLight$Bench" "lights" "[I", .fieldLink RX0 18 "JoinedLight$Bench" "lineCount" "I", .fieldLink RX0 22 "JoinedLight$Bench" "places" "[I", .fieldLink RX0 25 "JoinedLight$Bench" "kinds" "[I", .fieldLink RX0 28 "JoinedLight$Bench" "firsts" "[I", .fieldLink RX0 31 "JoinedLight$Bench" "seconds" "[I", .fieldLink RX0 34 "JoinedLight$Bench" "turns" "[I", .fieldLink RX0 37 "JoinedLight$Bench" "thingCount" "I", .fieldLink RX0 40 "JoinedLight$Bench" "cellWidth" "I"] ++ wsX00)
def wsX0_hasLine : List Cond := .code yX0_hasLine cX0_hasLine 2 (some .boolean) :: ([.fieldLink RX0 18 "JoinedLight$Bench" "lineCount" "I"] ++ wsX00)
def wsX0_hasThing : List Cond := .code yX0_hasThing cX0_hasThing 2 (some .boolean) :: ([.fieldLink RX0 37 "JoinedLight$Bench" "thingCount" "I"] ++ wsX00)
def wsX0_indexOf : List Cond := .code yX0_indexOf cX0_indexOf 3 (some .int) :: ([.fieldLink RX0 22 "JoinedLight$Bench" "places" "[I", .methodLink RX0 49 yX0_hasThing, .instanceMethod yX0_hasThing, .selects RX0 yX0_hasThing yX0_hasThing, .initialized RX0, .code yX0_hasThing cX0_hasThing 2 (some .boolean), .fieldLink RX0 37 "JoinedLight$Bench" "thingCount" "I"] ++ wsX00)
def wsX0_thingsAhead : List Cond := .code yX0_thingsAhead cX0_thingsAhead 3 (some .int) :: ([.fieldLink RX0 22 "JoinedLight$Bench" "places" "[I", .methodLink RX0 49 yX0_hasThing, .instanceMethod yX0_hasThing, .selects RX0 yX0_hasThing yX0_hasThing, .initialized RX0, .code yX0_hasThing cX0_hasThing 2 (some .boolean), .fieldLink RX0 37 "JoinedLight$Bench" "thingCount" "I"] ++ wsX00)
def wsJ9_floorDiv_7cf53 : List Cond := .code yJ9_floorDiv_7cf53 cJ9_floorDiv_7cf53 3 (some .int) :: ([])
def wsX0_cellOf : List Cond := .code yX0_cellOf cX0_cellOf 2 (some .int) :: ([.fieldLink RX0 40 "JoinedLight$Bench" "cellWidth" "I", .methodLink RX0 53 yJ9_floorDiv_7cf53, .static yJ9_floorDiv_7cf53, .initialized RJ9, .code yJ9_floorDiv_7cf53 cJ9_floorDiv_7cf53 3 (some .int)] ++ wsX00)
def wsX0_lightOfAll : List Cond := .code yX0_lightOfAll cX0_lightOfAll 3 (some .int) :: ([.fieldLink RX0 15 "JoinedLight$Bench" "lights" "[I", .methodLink RX0 59 yX0_hasLine, .instanceMethod yX0_hasLine, .selects RX0 yX0_hasLine yX0_hasLine, .initialized RX0, .code yX0_hasLine cX0_hasLine 2 (some .boolean), .fieldLink RX0 18 "JoinedLight$Bench" "lineCount" "I"] ++ wsX00)
def wsX6_within : List Cond := .code yX6_within cX6_within 3 (some .boolean) :: ([])
def wsX0_addLine : List Cond := .code yX0_addLine cX0_addLine 4 (some .int) :: ([.constant RX0 66 (-1000000001), .fieldLink RX0 18 "JoinedLight$Bench" "lineCount" "I", .constant RX0 67 (-1000000003), .fieldLink RX0 9 "JoinedLight$Bench" "colours" "[I", .fieldLink RX0 15 "JoinedLight$Bench" "lights" "[I", .static yX6_within, .initialized RX6, .code yX6_within cX6_within 3 (some .boolean)] ++ wsX00)
def wsX0_changeLight : List Cond := .code yX0_changeLight cX0_changeLight 4 (some .int) :: ([.constant RX0 66 (-1000000001), .fieldLink RX0 15 "JoinedLight$Bench" "lights" "[I", .methodLink RX0 59 yX0_hasLine, .instanceMethod yX0_hasLine, .selects RX0 yX0_hasLine yX0_hasLine, .initialized RX0, .code yX0_hasLine cX0_hasLine 2 (some .boolean), .fieldLink RX0 18 "JoinedLight$Bench" "lineCount" "I", .static yX6_within, .initialized RX6, .code yX6_within cX6_within 3 (some .boolean)] ++ wsX00)
def wsX0_copyThing : List Cond := .code yX0_copyThing cX0_copyThing 3 none :: ([.fieldLink RX0 22 "JoinedLight$Bench" "places" "[I", .fieldLink RX0 25 "JoinedLight$Bench" "kinds" "[I", .fieldLink RX0 28 "JoinedLight$Bench" "firsts" "[I", .fieldLink RX0 31 "JoinedLight$Bench" "seconds" "[I", .fieldLink RX0 34 "JoinedLight$Bench" "turns" "[I"] ++ wsX00)
def wsX0_addThing_r1 : List Cond := [Cond.constant RX0 76 (-1000000002), Cond.fieldLink RX0 37 "JoinedLight$Bench" "thingCount" "I", Cond.constant RX0 67 (-1000000003), Cond.fieldLink RX0 22 "JoinedLight$Bench" "places" "[I", Cond.fieldLink RX0 25 "JoinedLight$Bench" "kinds" "[I", Cond.fieldLink RX0 28 "JoinedLight$Bench" "firsts" "[I", Cond.fieldLink RX0 31 "JoinedLight$Bench" "seconds" "[I", Cond.fieldLink RX0 34 "JoinedLight$Bench" "turns" "[I", Cond.methodLink RX0 72 yX0_indexOf, Cond.instanceMethod yX0_indexOf, Cond.selects RX0 yX0_indexOf yX0_indexOf, Cond.initialized RX0, Cond.code yX0_indexOf cX0_indexOf 3 (some .int), Cond.methodLink RX0 49 yX0_hasThing, Cond.instanceMethod yX0_hasThing, Cond.selects RX0 yX0_hasThing yX0_hasThing, Cond.code yX0_hasThing cX0_hasThing 2 (some .boolean), Cond.methodLink RX0 77 yX0_thingsAhead, Cond.instanceMethod yX0_thingsAhead, Cond.selects RX0 yX0_thingsAhead yX0_thingsAhead, Cond.code yX0_thingsAhead cX0_thingsAhead 3 (some .int), Cond.methodLink RX0 80 yX0_copyThing, Cond.instanceMethod yX0_copyThing, Cond.selects RX0 yX0_copyThing yX0_copyThing]
def wsX0_addThing_r2 : List Cond := [Cond.code yX0_copyThing cX0_copyThing 3 none]
def wsX0_addThing : List Cond := .code yX0_addThing cX0_addThing 8 (some .int) :: ((wsX0_addThing_r1 ++ wsX0_addThing_r2) ++ wsX00)
def wsX0_addPrism_r1 : List Cond := [Cond.constant RX0 66 (-1000000001), Cond.static yX6_within, Cond.initialized RX6, Cond.code yX6_within cX6_within 3 (some .boolean), Cond.methodLink RX0 68 yX0_addThing, Cond.instanceMethod yX0_addThing, Cond.selects RX0 yX0_addThing yX0_addThing, Cond.initialized RX0, Cond.code yX0_addThing cX0_addThing 8 (some .int), Cond.constant RX0 76 (-1000000002), Cond.fieldLink RX0 37 "JoinedLight$Bench" "thingCount" "I", Cond.constant RX0 67 (-1000000003), Cond.fieldLink RX0 22 "JoinedLight$Bench" "places" "[I", Cond.fieldLink RX0 25 "JoinedLight$Bench" "kinds" "[I", Cond.fieldLink RX0 28 "JoinedLight$Bench" "firsts" "[I", Cond.fieldLink RX0 31 "JoinedLight$Bench" "seconds" "[I", Cond.fieldLink RX0 34 "JoinedLight$Bench" "turns" "[I", Cond.methodLink RX0 72 yX0_indexOf, Cond.instanceMethod yX0_indexOf, Cond.selects RX0 yX0_indexOf yX0_indexOf, Cond.code yX0_indexOf cX0_indexOf 3 (some .int), Cond.methodLink RX0 49 yX0_hasThing, Cond.instanceMethod yX0_hasThing, Cond.selects RX0 yX0_hasThing yX0_hasThing]
def wsX0_addPrism_r2 : List Cond := [Cond.code yX0_hasThing cX0_hasThing 2 (some .boolean), Cond.methodLink RX0 77 yX0_thingsAhead, Cond.instanceMethod yX0_thingsAhead, Cond.selects RX0 yX0_thingsAhead yX0_thingsAhead, Cond.code yX0_thingsAhead cX0_thingsAhead 3 (some .int), Cond.methodLink RX0 80 yX0_copyThing, Cond.instanceMethod yX0_copyThing, Cond.selects RX0 yX0_copyThing yX0_copyThing, Cond.code yX0_copyThing cX0_copyThing 3 none]
def wsX0_addPrism : List Cond := .code yX0_addPrism cX0_addPrism 6 (some .int) :: ((wsX0_addPrism_r1 ++ wsX0_addPrism_r2) ++ wsX00)
def wsX0_addSlit_r1 : List Cond := [Cond.constant RX0 66 (-1000000001), Cond.static yX6_within, Cond.initialized RX6, Cond.code yX6_within cX6_within 3 (some .boolean), Cond.methodLink RX0 68 yX0_addThing, Cond.instanceMethod yX0_addThing, Cond.selects RX0 yX0_addThing yX0_addThing, Cond.initialized RX0, Cond.code yX0_addThing cX0_addThing 8 (some .int), Cond.constant RX0 76 (-1000000002), Cond.fieldLink RX0 37 "JoinedLight$Bench" "thingCount" "I", Cond.constant RX0 67 (-1000000003), Cond.fieldLink RX0 22 "JoinedLight$Bench" "places" "[I", Cond.fieldLink RX0 25 "JoinedLight$Bench" "kinds" "[I", Cond.fieldLink RX0 28 "JoinedLight$Bench" "firsts" "[I", Cond.fieldLink RX0 31 "JoinedLight$Bench" "seconds" "[I", Cond.fieldLink RX0 34 "JoinedLight$Bench" "turns" "[I", Cond.methodLink RX0 72 yX0_indexOf, Cond.instanceMethod yX0_indexOf, Cond.selects RX0 yX0_indexOf yX0_indexOf, Cond.code yX0_indexOf cX0_indexOf 3 (some .int), Cond.methodLink RX0 49 yX0_hasThing, Cond.instanceMethod yX0_hasThing, Cond.selects RX0 yX0_hasThing yX0_hasThing]
def wsX0_addSlit_r2 : List Cond := [Cond.code yX0_hasThing cX0_hasThing 2 (some .boolean), Cond.methodLink RX0 77 yX0_thingsAhead, Cond.instanceMethod yX0_thingsAhead, Cond.selects RX0 yX0_thingsAhead yX0_thingsAhead, Cond.code yX0_thingsAhead cX0_thingsAhead 3 (some .int), Cond.methodLink RX0 80 yX0_copyThing, Cond.instanceMethod yX0_copyThing, Cond.selects RX0 yX0_copyThing yX0_copyThing, Cond.code yX0_copyThing cX0_copyThing 3 none]
def wsX0_addSlit : List Cond := .code yX0_addSlit cX0_addSlit 5 (some .int) :: ((wsX0_addSlit_r1 ++ wsX0_addSlit_r2) ++ wsX00)
def wsX0_removeThing : List Cond := .code yX0_removeThing cX0_removeThing 4 (some .int) :: ([.constant RX0 66 (-1000000001), .fieldLink RX0 37 "JoinedLight$Bench" "thingCount" "I", .methodLink RX0 72 yX0_indexOf, .instanceMethod yX0_indexOf, .selects RX0 yX0_indexOf yX0_indexOf, .initialized RX0, .code yX0_indexOf cX0_indexOf 3 (some .int), .fieldLink RX0 22 "JoinedLight$Bench" "places" "[I", .methodLink RX0 49 yX0_hasThing, .instanceMethod yX0_hasThing, .selects RX0 yX0_hasThing yX0_hasThing, .code yX0_hasThing cX0_hasThing 2 (some .boolean), .methodLink RX0 80 yX0_copyThing, .instanceMethod yX0_copyThing, .selects RX0 yX0_copyThing yX0_copyThing, .code yX0_copyThing cX0_copyThing 3 none, .fieldLink RX0 25 "JoinedLight$Bench" "kinds" "[I", .fieldLink RX0 28 "JoinedLight$Bench" "firsts" "[I", .fieldLink RX0 31 "JoinedLight$Bench" "seconds" "[I", .fieldLink RX0 34 "JoinedLight$Bench" "turns" "[I"] ++ wsX00)
def wsX0_moveThing_r1 : List Cond := [Cond.constant RX0 66 (-1000000001), Cond.constant RX0 76 (-1000000002), Cond.fieldLink RX0 25 "JoinedLight$Bench" "kinds" "[I", Cond.fieldLink RX0 28 "JoinedLight$Bench" "firsts" "[I", Cond.fieldLink RX0 31 "JoinedLight$Bench" "seconds" "[I", Cond.fieldLink RX0 34 "JoinedLight$Bench" "turns" "[I", Cond.methodLink RX0 72 yX0_indexOf, Cond.instanceMethod yX0_indexOf, Cond.selects RX0 yX0_indexOf yX0_indexOf, Cond.initialized RX0, Cond.code yX0_indexOf cX0_indexOf 3 (some .int), Cond.fieldLink RX0 22 "JoinedLight$Bench" "places" "[I", Cond.methodLink RX0 49 yX0_hasThing, Cond.instanceMethod yX0_hasThing, Cond.selects RX0 yX0_hasThing yX0_hasThing, Cond.code yX0_hasThing cX0_hasThing 2 (some .boolean), Cond.fieldLink RX0 37 "JoinedLight$Bench" "thingCount" "I", Cond.static yX6_within, Cond.initialized RX6, Cond.code yX6_within cX6_within 3 (some .boolean), Cond.methodLink RX0 84 yX0_removeThing, Cond.instanceMethod yX0_removeThing, Cond.selects RX0 yX0_removeThing yX0_removeThing, Cond.code yX0_removeThing cX0_removeThing 4 (some .int)]
def wsX0_moveThing_r2 : List Cond := [Cond.methodLink RX0 80 yX0_copyThing, Cond.instanceMethod yX0_copyThing, Cond.selects RX0 yX0_copyThing yX0_copyThing, Cond.code yX0_copyThing cX0_copyThing 3 none, Cond.methodLink RX0 68 yX0_addThing, Cond.instanceMethod yX0_addThing, Cond.selects RX0 yX0_addThing yX0_addThing, Cond.code yX0_addThing cX0_addThing 8 (some .int), Cond.constant RX0 67 (-1000000003), Cond.methodLink RX0 77 yX0_thingsAhead, Cond.instanceMethod yX0_thingsAhead, Cond.selects RX0 yX0_thingsAhead yX0_thingsAhead, Cond.code yX0_thingsAhead cX0_thingsAhead 3 (some .int)]
def wsX0_moveThing : List Cond := .code yX0_moveThing cX0_moveThing 8 (some .int) :: ((wsX0_moveThing_r1 ++ wsX0_moveThing_r2) ++ wsX00)
def wsX0_changeSetting : List Cond := .code yX0_changeSetting cX0_changeSetting 4 (some .int) :: ([.constant RX0 66 (-1000000001), .fieldLink RX0 40 "JoinedLight$Bench" "cellWidth" "I", .static yX6_within, .initialized RX6, .code yX6_within cX6_within 3 (some .boolean)] ++ wsX00)
def wsX6_bendingOf : List Cond := .code yX6_bendingOf cX6_bendingOf 3 (some .int) :: ([.methodLink RX6 258 yJ9_floorDiv_7cf53, .static yJ9_floorDiv_7cf53, .initialized RJ9, .code yJ9_floorDiv_7cf53 cJ9_floorDiv_7cf53 3 (some .int)])
def wsX0_bendAt : List Cond := .code yX0_bendAt cX0_bendAt 4 (some .int) :: ([.fieldLink RX0 25 "JoinedLight$Bench" "kinds" "[I", .fieldLink RX0 31 "JoinedLight$Bench" "seconds" "[I", .fieldLink RX0 28 "JoinedLight$Bench" "firsts" "[I", .fieldLink RX0 34 "JoinedLight$Bench" "turns" "[I", .methodLink RX0 49 yX0_hasThing, .instanceMethod yX0_hasThing, .selects RX0 yX0_hasThing yX0_hasThing, .initialized RX0, .code yX0_hasThing cX0_hasThing 2 (some .boolean), .fieldLink RX0 37 "JoinedLight$Bench" "thingCount" "I", .static yX6_bendingOf, .initialized RX6, .code yX6_bendingOf cX6_bendingOf 3 (some .int), .methodLink RX6 258 yJ9_floorDiv_7cf53, .static yJ9_floorDiv_7cf53, .initialized RJ9, .code yJ9_floorDiv_7cf53 cJ9_floorDiv_7cf53 3 (some .int), .methodLink RX0 53 yJ9_floorDiv_7cf53] ++ wsX00)
def wsX0_isBeyond : List Cond := .code yX0_isBeyond cX0_isBeyond 1 (some .boolean) :: ([.static yX6_within, .initialized RX6, .code yX6_within cX6_within 3 (some .boolean)])
def wsX0_whyLostAt : List Cond := .code yX0_whyLostAt cX0_whyLostAt 4 (some .int) :: ([.fieldLink RX0 25 "JoinedLight$Bench" "kinds" "[I", .fieldLink RX0 28 "JoinedLight$Bench" "firsts" "[I", .fieldLink RX0 31 "JoinedLight$Bench" "seconds" "[I", .methodLink RX0 90 yX0_isBeyond, .static yX0_isBeyond, .initialized RX0, .code yX0_isBeyond cX0_isBeyond 1 (some .boolean), .static yX6_within, .initialized RX6, .code yX6_within cX6_within 3 (some .boolean), .methodLink RX0 49 yX0_hasThing, .instanceMethod yX0_hasThing, .selects RX0 yX0_hasThing yX0_hasThing, .code yX0_hasThing cX0_hasThing 2 (some .boolean), .fieldLink RX0 37 "JoinedLight$Bench" "thingCount" "I"] ++ wsX00)
def wsX1_init : List Cond := .code yX1_init cX1_init 1 none :: ([.methodLink RX1 3 objectInit, .instanceMethod objectInit, .code objectInit ⟨#[0xb1]⟩ 1 none, .arrayClass .int, .fieldLink RX1 9 "JoinedLight$Cells" "numbers" "[I", .fieldLink RX1 15 "JoinedLight$Cells" "lights" "[I", .fieldLink RX1 18 "JoinedLight$Cells" "lines" "[I", .fieldLink RX1 21 "JoinedLight$Cells" "used" "I"] ++ wsX10)
def wsX4_comes : List Cond := .code yX4_comes cX4_comes 2 (some .boolean) :: ([.fieldLink RX4 21 "JoinedLight$Rays" "lostWhy" "[I"] ++ wsX40)
def wsX1_hasSlot : List Cond := .code yX1_hasSlot cX1_hasSlot 2 (some .boolean) :: ([.fieldLink RX1 21 "JoinedLight$Cells" "used" "I"] ++ wsX10)
def wsX1_slotOf : List Cond := .code yX1_slotOf cX1_slotOf 3 (some .int) :: ([.fieldLink RX1 9 "JoinedLight$Cells" "numbers" "[I", .methodLink RX1 51 yX1_hasSlot, .instanceMethod yX1_hasSlot, .selects RX1 yX1_hasSlot yX1_hasSlot, .initialized RX1, .code yX1_hasSlot cX1_hasSlot 2 (some .boolean), .fieldLink RX1 21 "JoinedLight$Cells" "used" "I"] ++ wsX10)
def wsX1_addTo : List Cond := .code yX1_addTo cX1_addTo 5 none :: ([.fieldLink RX1 21 "JoinedLight$Cells" "used" "I", .fieldLink RX1 9 "JoinedLight$Cells" "numbers" "[I", .fieldLink RX1 15 "JoinedLight$Cells" "lights" "[I", .fieldLink RX1 18 "JoinedLight$Cells" "lines" "[I", .methodLink RX1 48 yX1_slotOf, .instanceMethod yX1_slotOf, .selects RX1 yX1_slotOf yX1_slotOf, .initialized RX1, .code yX1_slotOf cX1_slotOf 3 (some .int), .methodLink RX1 51 yX1_hasSlot, .instanceMethod yX1_hasSlot, .selects RX1 yX1_hasSlot yX1_hasSlot, .code yX1_hasSlot cX1_hasSlot 2 (some .boolean)] ++ wsX10)
def wsX1_gather_r1 : List Cond := [Cond.fieldLink RX1 21 "JoinedLight$Cells" "used" "I", Cond.fieldLink RX1 36 "JoinedLight$Rays" "heights" "[I", Cond.fieldLink RX1 43 "JoinedLight$Bench" "lights" "[I", Cond.methodLink RX1 25 yX0_hasLine, Cond.instanceMethod yX0_hasLine, Cond.selects RX0 yX0_hasLine yX0_hasLine, Cond.initialized RX0, Cond.code yX0_hasLine cX0_hasLine 2 (some .boolean), Cond.fieldLink RX0 18 "JoinedLight$Bench" "lineCount" "I", Cond.methodLink RX1 31 yX4_comes, Cond.instanceMethod yX4_comes, Cond.selects RX4 yX4_comes yX4_comes, Cond.initialized RX4, Cond.code yX4_comes cX4_comes 2 (some .boolean), Cond.fieldLink RX4 21 "JoinedLight$Rays" "lostWhy" "[I", Cond.methodLink RX1 39 yX0_cellOf, Cond.instanceMethod yX0_cellOf, Cond.selects RX0 yX0_cellOf yX0_cellOf, Cond.code yX0_cellOf cX0_cellOf 2 (some .int), Cond.fieldLink RX0 40 "JoinedLight$Bench" "cellWidth" "I", Cond.methodLink RX0 53 yJ9_floorDiv_7cf53, Cond.static yJ9_floorDiv_7cf53, Cond.initialized RJ9, Cond.code yJ9_floorDiv_7cf53 cJ9_floorDiv_7cf53 3 (some .int)]
def wsX1_gather_r2 : List Cond := [Cond.methodLink RX1 44 yX1_addTo, Cond.instanceMethod yX1_addTo, Cond.selects RX1 yX1_addTo yX1_addTo, Cond.initialized RX1, Cond.code yX1_addTo cX1_addTo 5 none, Cond.fieldLink RX1 9 "JoinedLight$Cells" "numbers" "[I", Cond.fieldLink RX1 15 "JoinedLight$Cells" "lights" "[I", Cond.fieldLink RX1 18 "JoinedLight$Cells" "lines" "[I", Cond.methodLink RX1 48 yX1_slotOf, Cond.instanceMethod yX1_slotOf, Cond.selects RX1 yX1_slotOf yX1_slotOf, Cond.code yX1_slotOf cX1_slotOf 3 (some .int), Cond.methodLink RX1 51 yX1_hasSlot, Cond.instanceMethod yX1_hasSlot, Cond.selects RX1 yX1_hasSlot yX1_hasSlot, Cond.code yX1_hasSlot cX1_hasSlot 2 (some .boolean)]
def wsX1_gather : List Cond := .code yX1_gather cX1_gather 4 none :: ((wsX1_gather_r1 ++ wsX1_gather_r2) ++ wsX10 ++ wsX40 ++ wsX00)
def wsX1_lightOf : List Cond := .code yX1_lightOf cX1_lightOf 3 (some .int) :: ([.fieldLink RX1 15 "JoinedLight$Cells" "lights" "[I", .methodLink RX1 48 yX1_slotOf, .instanceMethod yX1_slotOf, .selects RX1 yX1_slotOf yX1_slotOf, .initialized RX1, .code yX1_slotOf cX1_slotOf 3 (some .int), .fieldLink RX1 9 "JoinedLight$Cells" "numbers" "[I", .methodLink RX1 51 yX1_hasSlot, .instanceMethod yX1_hasSlot, .selects RX1 yX1_hasSlot yX1_hasSlot, .code yX1_hasSlot cX1_hasSlot 2 (some .boolean), .fieldLink RX1 21 "JoinedLight$Cells" "used" "I"] ++ wsX10)
def wsX1_rankOf : List Cond := .code yX1_rankOf cX1_rankOf 6 (some .int) :: ([.fieldLink RX1 15 "JoinedLight$Cells" "lights" "[I", .fieldLink RX1 9 "JoinedLight$Cells" "numbers" "[I", .methodLink RX1 51 yX1_hasSlot, .instanceMethod yX1_hasSlot, .selects RX1 yX1_hasSlot yX1_hasSlot, .initialized RX1, .code yX1_hasSlot cX1_hasSlot 2 (some .boolean), .fieldLink RX1 21 "JoinedLight$Cells" "used" "I"] ++ wsX10)
def wsX1_slotOfRank : List Cond := .code yX1_slotOfRank cX1_slotOfRank 3 (some .int) :: ([.methodLink RX1 51 yX1_hasSlot, .instanceMethod yX1_hasSlot, .selects RX1 yX1_hasSlot yX1_hasSlot, .initialized RX1, .code yX1_hasSlot cX1_hasSlot 2 (some .boolean), .fieldLink RX1 21 "JoinedLight$Cells" "used" "I", .methodLink RX1 54 yX1_rankOf, .instanceMethod yX1_rankOf, .selects RX1 yX1_rankOf yX1_rankOf, .code yX1_rankOf cX1_rankOf 6 (some .int), .fieldLink RX1 15 "JoinedLight$Cells" "lights" "[I", .fieldLink RX1 9 "JoinedLight$Cells" "numbers" "[I"] ++ wsX10)
def wsX2_init : List Cond := .code yX2_init cX2_init 1 none :: ([.methodLink RX2 1 objectInit, .instanceMethod objectInit, .code objectInit ⟨#[0xb1]⟩ 1 none, .fieldLink RX2 7 "JoinedLight$Choice" "value" "I", .fieldLink RX2 13 "JoinedLight$Choice" "arrivals" "I", .fieldLink RX2 16 "JoinedLight$Choice" "spread" "I"] ++ wsX20)
def wsX2_clear : List Cond := .code yX2_clear cX2_clear 1 none :: ([.fieldLink RX2 13 "JoinedLight$Choice" "arrivals" "I"] ++ wsX20)
def wsX2_offer : List Cond := .code yX2_offer cX2_offer 4 none :: ([.fieldLink RX2 13 "JoinedLight$Choice" "arrivals" "I", .fieldLink RX2 16 "JoinedLight$Choice" "spread" "I", .fieldLink RX2 7 "JoinedLight$Choice" "value" "I"] ++ wsX20)
def wsX3_init : List Cond := .code yX3_init cX3_init 1 none :: ([.methodLink RX3 3 objectInit, .instanceMethod objectInit, .code objectInit ⟨#[0xb1]⟩ 1 none, .classLink RX3 9 RX0, .fieldLink RX3 11 "JoinedLight$History" "rooms" "[LJoinedLight$Bench;", .fieldLink RX3 17 "JoinedLight$History" "states" "I"] ++ wsX30)
def wsX3_dropOldest : List Cond := .code yX3_dropOldest cX3_dropOldest 3 none :: ([.fieldLink RX3 11 "JoinedLight$History" "rooms" "[LJoinedLight$Bench;", .fieldLink RX3 17 "JoinedLight$History" "states" "I"] ++ wsX30)
def wsX3_record_r1 : List Cond := [Cond.fieldLink RX3 17 "JoinedLight$History" "states" "I", Cond.fieldLink RX3 11 "JoinedLight$History" "rooms" "[LJoinedLight$Bench;", Cond.classLink RX3 9 RX0, Cond.instantiable RX0 10, Cond.initialized RX0, Cond.methodLink RX3 21 yX3_dropOldest, Cond.instanceMethod yX3_dropOldest, Cond.selects RX3 yX3_dropOldest yX3_dropOldest, Cond.initialized RX3, Cond.code yX3_dropOldest cX3_dropOldest 3 none, Cond.instanceMethod yX0_init, Cond.code yX0_init cX0_init 1 none, Cond.methodLink RX0 3 objectInit, Cond.instanceMethod objectInit, Cond.code objectInit ⟨#[0xb1]⟩ 1 none, Cond.arrayClass .int, Cond.fieldLink RX0 9 "JoinedLight$Bench" "colours" "[I", Cond.fieldLink RX0 15 "JoinedLight$Bench" "lights" "[I", Cond.fieldLink RX0 18 "JoinedLight$Bench" "lineCount" "I", Cond.fieldLink RX0 22 "JoinedLight$Bench" "places" "[I", Cond.fieldLink RX0 25 "JoinedLight$Bench" "kinds" "[I", Cond.fieldLink RX0 28 "JoinedLight$Bench" "firsts" "[I", Cond.fieldLink RX0 31 "JoinedLight$Bench" "seconds" "[I", Cond.fieldLink RX0 34 "JoinedLight$Bench" "turns" "[I"]
def wsX3_record_r2 : List Cond := [Cond.fieldLink RX0 37 "JoinedLight$Bench" "thingCount" "I", Cond.fieldLink RX0 40 "JoinedLight$Bench" "cellWidth" "I", Cond.methodLink RX3 25 yX0_copyFrom, Cond.instanceMethod yX0_copyFrom, Cond.selects RX0 yX0_copyFrom yX0_copyFrom, Cond.code yX0_copyFrom cX0_copyFrom 2 none, Cond.methodLink RX0 43 arraycopyName, Cond.native arraycopyName, Cond.static arraycopyName, Cond.initialized "java/lang/System"]
def wsX3_record : List Cond := .code yX3_record cX3_record 3 none :: ((wsX3_record_r1 ++ wsX3_record_r2) ++ wsX30 ++ wsX00)
def wsX3_takeLatest : List Cond := .code yX3_takeLatest cX3_takeLatest 4 (some .boolean) :: ([.fieldLink RX3 17 "JoinedLight$History" "states" "I", .fieldLink RX3 11 "JoinedLight$History" "rooms" "[LJoinedLight$Bench;", .methodLink RX3 25 yX0_copyFrom, .instanceMethod yX0_copyFrom, .selects RX0 yX0_copyFrom yX0_copyFrom, .initialized RX0, .code yX0_copyFrom cX0_copyFrom 2 none, .fieldLink RX0 9 "JoinedLight$Bench" "colours" "[I", .methodLink RX0 43 arraycopyName, .native arraycopyName, .static arraycopyName, .initialized "java/lang/System", .fieldLink RX0 15 "JoinedLight$Bench" "lights" "[I", .fieldLink RX0 18 "JoinedLight$Bench" "lineCount" "I", .fieldLink RX0 22 "JoinedLight$Bench" "places" "[I", .fieldLink RX0 25 "JoinedLight$Bench" "kinds" "[I", .fieldLink RX0 28 "JoinedLight$Bench" "firsts" "[I", .fieldLink RX0 31 "JoinedLight$Bench" "seconds" "[I", .fieldLink RX0 34 "JoinedLight$Bench" "turns" "[I", .fieldLink RX0 37 "JoinedLight$Bench" "thingCount" "I", .fieldLink RX0 40 "JoinedLight$Bench" "cellWidth" "I"] ++ wsX30 ++ wsX00)
def wsX4_init : List Cond := .code yX4_init cX4_init 1 none :: ([.methodLink RX4 3 objectInit, .instanceMethod objectInit, .code objectInit ⟨#[0xb1]⟩ 1 none, .arrayClass .int, .fieldLink RX4 9 "JoinedLight$Rays" "heights" "[I", .fieldLink RX4 15 "JoinedLight$Rays" "slopes" "[I", .fieldLink RX4 18 "JoinedLight$Rays" "lostAt" "[I", .fieldLink RX4 21 "JoinedLight$Rays" "lostWhy" "[I", .fieldLink RX4 24 "JoinedLight$Rays" "followed" "I"] ++ wsX40)
def wsX4_rise : List Cond := .code yX4_rise cX4_rise 2 (some .int) :: ([.methodLink RX4 67 yJ9_floorDiv_7cf53, .static yJ9_floorDiv_7cf53, .initialized RJ9, .code yJ9_floorDiv_7cf53 cJ9_floorDiv_7cf53 3 (some .int)])
def wsX4_finish : List Cond := .code yX4_finish cX4_finish 4 none :: ([.fieldLink RX4 18 "JoinedLight$Rays" "lostAt" "[I", .fieldLink RX4 21 "JoinedLight$Rays" "lostWhy" "[I"] ++ wsX40)
def wsX4_followLine_r1 : List Cond := [Cond.fieldLink RX4 41 "JoinedLight$Bench" "colours" "[I", Cond.fieldLink RX4 47 "JoinedLight$Bench" "places" "[I", Cond.fieldLink RX4 9 "JoinedLight$Rays" "heights" "[I", Cond.fieldLink RX4 15 "JoinedLight$Rays" "slopes" "[I", Cond.methodLink RX4 28 yX0_hasLine, Cond.instanceMethod yX0_hasLine, Cond.selects RX0 yX0_hasLine yX0_hasLine, Cond.initialized RX0, Cond.code yX0_hasLine cX0_hasLine 2 (some .boolean), Cond.fieldLink RX0 18 "JoinedLight$Bench" "lineCount" "I", Cond.methodLink RX4 44 yX0_hasThing, Cond.instanceMethod yX0_hasThing, Cond.selects RX0 yX0_hasThing yX0_hasThing, Cond.code yX0_hasThing cX0_hasThing 2 (some .boolean), Cond.fieldLink RX0 37 "JoinedLight$Bench" "thingCount" "I", Cond.methodLink RX4 50 yX4_rise, Cond.static yX4_rise, Cond.initialized RX4, Cond.code yX4_rise cX4_rise 2 (some .int), Cond.methodLink RX4 67 yJ9_floorDiv_7cf53, Cond.static yJ9_floorDiv_7cf53, Cond.initialized RJ9, Cond.code yJ9_floorDiv_7cf53 cJ9_floorDiv_7cf53 3 (some .int), Cond.methodLink RX4 54 yX0_whyLostAt]
def wsX4_followLine_r2 : List Cond := [Cond.instanceMethod yX0_whyLostAt, Cond.selects RX0 yX0_whyLostAt yX0_whyLostAt, Cond.code yX0_whyLostAt cX0_whyLostAt 4 (some .int), Cond.fieldLink RX0 25 "JoinedLight$Bench" "kinds" "[I", Cond.fieldLink RX0 28 "JoinedLight$Bench" "firsts" "[I", Cond.fieldLink RX0 31 "JoinedLight$Bench" "seconds" "[I", Cond.methodLink RX0 90 yX0_isBeyond, Cond.static yX0_isBeyond, Cond.code yX0_isBeyond cX0_isBeyond 1 (some .boolean), Cond.static yX6_within, Cond.initialized RX6, Cond.code yX6_within cX6_within 3 (some .boolean), Cond.methodLink RX0 49 yX0_hasThing, Cond.methodLink RX4 57 yX4_finish, Cond.instanceMethod yX4_finish, Cond.selects RX4 yX4_finish yX4_finish, Cond.code yX4_finish cX4_finish 4 none, Cond.fieldLink RX4 18 "JoinedLight$Rays" "lostAt" "[I", Cond.fieldLink RX4 21 "JoinedLight$Rays" "lostWhy" "[I", Cond.methodLink RX4 61 yX0_bendAt, Cond.instanceMethod yX0_bendAt, Cond.selects RX0 yX0_bendAt yX0_bendAt, Cond.code yX0_bendAt cX0_bendAt 4 (some .int), Cond.fieldLink RX0 34 "JoinedLight$Bench" "turns" "[I"]
def wsX4_followLine_r3 : List Cond := [Cond.static yX6_bendingOf, Cond.code yX6_bendingOf cX6_bendingOf 3 (some .int), Cond.methodLink RX6 258 yJ9_floorDiv_7cf53, Cond.methodLink RX0 53 yJ9_floorDiv_7cf53, Cond.methodLink RX4 64 yX0_isBeyond]
def wsX4_followLine : List Cond := .code yX4_followLine cX4_followLine 10 none :: ((wsX4_followLine_r1 ++ (wsX4_followLine_r2 ++ wsX4_followLine_r3)) ++ wsX00 ++ wsX40)
def wsX4_follow_r1 : List Cond := [Cond.fieldLink RX4 38 "JoinedLight$Bench" "lineCount" "I", Cond.fieldLink RX4 24 "JoinedLight$Rays" "followed" "I", Cond.methodLink RX4 28 yX0_hasLine, Cond.instanceMethod yX0_hasLine, Cond.selects RX0 yX0_hasLine yX0_hasLine, Cond.initialized RX0, Cond.code yX0_hasLine cX0_hasLine 2 (some .boolean), Cond.fieldLink RX0 18 "JoinedLight$Bench" "lineCount" "I", Cond.methodLink RX4 34 yX4_followLine, Cond.instanceMethod yX4_followLine, Cond.selects RX4 yX4_followLine yX4_followLine, Cond.initialized RX4, Cond.code yX4_followLine cX4_followLine 10 none, Cond.fieldLink RX4 41 "JoinedLight$Bench" "colours" "[I", Cond.fieldLink RX4 47 "JoinedLight$Bench" "places" "[I", Cond.fieldLink RX4 9 "JoinedLight$Rays" "heights" "[I", Cond.fieldLink RX4 15 "JoinedLight$Rays" "slopes" "[I", Cond.methodLink RX4 44 yX0_hasThing, Cond.instanceMethod yX0_hasThing, Cond.selects RX0 yX0_hasThing yX0_hasThing, Cond.code yX0_hasThing cX0_hasThing 2 (some .boolean), Cond.fieldLink RX0 37 "JoinedLight$Bench" "thingCount" "I", Cond.methodLink RX4 50 yX4_rise, Cond.static yX4_rise]
def wsX4_follow_r2 : List Cond := [Cond.code yX4_rise cX4_rise 2 (some .int), Cond.methodLink RX4 67 yJ9_floorDiv_7cf53, Cond.static yJ9_floorDiv_7cf53, Cond.initialized RJ9, Cond.code yJ9_floorDiv_7cf53 cJ9_floorDiv_7cf53 3 (some .int), Cond.methodLink RX4 54 yX0_whyLostAt, Cond.instanceMethod yX0_whyLostAt, Cond.selects RX0 yX0_whyLostAt yX0_whyLostAt, Cond.code yX0_whyLostAt cX0_whyLostAt 4 (some .int), Cond.fieldLink RX0 25 "JoinedLight$Bench" "kinds" "[I", Cond.fieldLink RX0 28 "JoinedLight$Bench" "firsts" "[I", Cond.fieldLink RX0 31 "JoinedLight$Bench" "seconds" "[I", Cond.methodLink RX0 90 yX0_isBeyond, Cond.static yX0_isBeyond, Cond.code yX0_isBeyond cX0_isBeyond 1 (some .boolean), Cond.static yX6_within, Cond.initialized RX6, Cond.code yX6_within cX6_within 3 (some .boolean), Cond.methodLink RX0 49 yX0_hasThing, Cond.methodLink RX4 57 yX4_finish, Cond.instanceMethod yX4_finish, Cond.selects RX4 yX4_finish yX4_finish, Cond.code yX4_finish cX4_finish 4 none, Cond.fieldLink RX4 18 "JoinedLight$Rays" "lostAt" "[I"]
def wsX4_follow_r3 : List Cond := [Cond.fieldLink RX4 21 "JoinedLight$Rays" "lostWhy" "[I", Cond.methodLink RX4 61 yX0_bendAt, Cond.instanceMethod yX0_bendAt, Cond.selects RX0 yX0_bendAt yX0_bendAt, Cond.code yX0_bendAt cX0_bendAt 4 (some .int), Cond.fieldLink RX0 34 "JoinedLight$Bench" "turns" "[I", Cond.static yX6_bendingOf, Cond.code yX6_bendingOf cX6_bendingOf 3 (some .int), Cond.methodLink RX6 258 yJ9_floorDiv_7cf53, Cond.methodLink RX0 53 yJ9_floorDiv_7cf53, Cond.methodLink RX4 64 yX0_isBeyond]
def wsX4_follow : List Cond := .code yX4_follow cX4_follow 3 none :: ((wsX4_follow_r1 ++ (wsX4_follow_r2 ++ wsX4_follow_r3)) ++ wsX00 ++ wsX40)
def wsX4_has : List Cond := .code yX4_has cX4_has 2 (some .boolean) :: ([.fieldLink RX4 24 "JoinedLight$Rays" "followed" "I"] ++ wsX40)
def wsX4_linesOnScreen : List Cond := .code yX4_linesOnScreen cX4_linesOnScreen 3 (some .int) :: ([.methodLink RX4 72 yX4_has, .instanceMethod yX4_has, .selects RX4 yX4_has yX4_has, .initialized RX4, .code yX4_has cX4_has 2 (some .boolean), .fieldLink RX4 24 "JoinedLight$Rays" "followed" "I", .methodLink RX4 75 yX4_comes, .instanceMethod yX4_comes, .selects RX4 yX4_comes yX4_comes, .code yX4_comes cX4_comes 2 (some .boolean), .fieldLink RX4 21 "JoinedLight$Rays" "lostWhy" "[I"] ++ wsX40)
def wsX4_linesAt : List Cond := .code yX4_linesAt cX4_linesAt 7 (some .int) :: ([.fieldLink RX4 18 "JoinedLight$Rays" "lostAt" "[I", .fieldLink RX4 21 "JoinedLight$Rays" "lostWhy" "[I", .methodLink RX4 28 yX0_hasLine, .instanceMethod yX0_hasLine, .selects RX0 yX0_hasLine yX0_hasLine, .initialized RX0, .code yX0_hasLine cX0_hasLine 2 (some .boolean), .fieldLink RX0 18 "JoinedLight$Bench" "lineCount" "I", .methodLink RX4 75 yX4_comes, .instanceMethod yX4_comes, .selects RX4 yX4_comes yX4_comes, .initialized RX4, .code yX4_comes cX4_comes 2 (some .boolean)] ++ wsX40 ++ wsX00)
def wsX4_lightLostAt : List Cond := .code yX4_lightLostAt cX4_lightLostAt 5 (some .int) :: ([.fieldLink RX4 18 "JoinedLight$Rays" "lostAt" "[I", .fieldLink RX4 78 "JoinedLight$Bench" "lights" "[I", .methodLink RX4 28 yX0_hasLine, .instanceMethod yX0_hasLine, .selects RX0 yX0_hasLine yX0_hasLine, .initialized RX0, .code yX0_hasLine cX0_hasLine 2 (some .boolean), .fieldLink RX0 18 "JoinedLight$Bench" "lineCount" "I", .methodLink RX4 75 yX4_comes, .instanceMethod yX4_comes, .selects RX4 yX4_comes yX4_comes, .initialized RX4, .code yX4_comes cX4_comes 2 (some .boolean), .fieldLink RX4 21 "JoinedLight$Rays" "lostWhy" "[I"] ++ wsX40 ++ wsX00)
def wsX4_lightOnScreen : List Cond := .code yX4_lightOnScreen cX4_lightOnScreen 4 (some .int) :: ([.fieldLink RX4 78 "JoinedLight$Bench" "lights" "[I", .methodLink RX4 28 yX0_hasLine, .instanceMethod yX0_hasLine, .selects RX0 yX0_hasLine yX0_hasLine, .initialized RX0, .code yX0_hasLine cX0_hasLine 2 (some .boolean), .fieldLink RX0 18 "JoinedLight$Bench" "lineCount" "I", .methodLink RX4 75 yX4_comes, .instanceMethod yX4_comes, .selects RX4 yX4_comes yX4_comes, .initialized RX4, .code yX4_comes cX4_comes 2 (some .boolean), .fieldLink RX4 21 "JoinedLight$Rays" "lostWhy" "[I"] ++ wsX00 ++ wsX40)
def wsX4_spread : List Cond := .code yX4_spread cX4_spread 4 (some .int) :: ([.fieldLink RX4 9 "JoinedLight$Rays" "heights" "[I", .methodLink RX4 81 Lib.Math.min.name, .static Lib.Math.min.name, .initialized "java/lang/Math", .code Lib.Math.min.name Lib.Math.min.code 2 (some .int), .methodLink RX4 84 Lib.Math.max.name, .static Lib.Math.max.name, .code Lib.Math.max.name Lib.Math.max.code 2 (some .int), .methodLink RX4 72 yX4_has, .instanceMethod yX4_has, .selects RX4 yX4_has yX4_has, .initialized RX4, .code yX4_has cX4_has 2 (some .boolean), .fieldLink RX4 24 "JoinedLight$Rays" "followed" "I", .methodLink RX4 75 yX4_comes, .instanceMethod yX4_comes, .selects RX4 yX4_comes yX4_comes, .code yX4_comes cX4_comes 2 (some .boolean), .fieldLink RX4 21 "JoinedLight$Rays" "lostWhy" "[I"] ++ wsX40)
def wsX4_slopesAreSame : List Cond := .code yX4_slopesAreSame cX4_slopesAreSame 2 (some .boolean) :: ([.fieldLink RX4 15 "JoinedLight$Rays" "slopes" "[I", .methodLink RX4 72 yX4_has, .instanceMethod yX4_has, .selects RX4 yX4_has yX4_has, .initialized RX4, .code yX4_has cX4_has 2 (some .boolean), .fieldLink RX4 24 "JoinedLight$Rays" "followed" "I"] ++ wsX40)
def wsX5_init : List Cond := .code yX5_init cX5_init 1 none :: ([.methodLink RX5 3 objectInit, .instanceMethod objectInit, .code objectInit ⟨#[0xb1]⟩ 1 none, .arrayClass .char, .fieldLink RX5 9 "JoinedLight$Text" "signs" "[C", .fieldLink RX5 15 "JoinedLight$Text" "length" "I", .fieldLink RX5 19 "JoinedLight$Text" "letter" "C", .arrayClass .int, .fieldLink RX5 23 "JoinedLight$Text" "numbers" "[I", .fieldLink RX5 27 "JoinedLight$Text" "next" "I"] ++ wsX50)
def wsX5_append : List Cond := .code yX5_append cX5_append 2 (some .boolean) :: ([.fieldLink RX5 15 "JoinedLight$Text" "length" "I", .fieldLink RX5 9 "JoinedLight$Text" "signs" "[C"] ++ wsX50)
def wsX5_signAt : List Cond := .code yX5_signAt cX5_signAt 2 (some .char) :: ([.fieldLink RX5 15 "JoinedLight$Text" "length" "I", .fieldLink RX5 9 "JoinedLight$Text" "signs" "[C"] ++ wsX50)
def wsX5_numbersOf : List Cond := .code yX5_numbersOf cX5_numbersOf 1 (some .int) :: ([])
def wsX5_readNumber : List Cond := .code yX5_readNumber cX5_readNumber 4 (some .boolean) :: ([.fieldLink RX5 27 "JoinedLight$Text" "next" "I", .fieldLink RX5 23 "JoinedLight$Text" "numbers" "[I", .methodLink RX5 30 yX5_signAt, .instanceMethod yX5_signAt, .selects RX5 yX5_signAt yX5_signAt, .initialized RX5, .code yX5_signAt cX5_signAt 2 (some .char), .fieldLink RX5 15 "JoinedLight$Text" "length" "I", .fieldLink RX5 9 "JoinedLight$Text" "signs" "[C", .static yX6_within, .initialized RX6, .code yX6_within cX6_within 3 (some .boolean)] ++ wsX50)
def wsX5_readSign : List Cond := .code yX5_readSign cX5_readSign 2 (some .boolean) :: ([.fieldLink RX5 27 "JoinedLight$Text" "next" "I", .methodLink RX5 30 yX5_signAt, .instanceMethod yX5_signAt, .selects RX5 yX5_signAt yX5_signAt, .initialized RX5, .code yX5_signAt cX5_signAt 2 (some .char), .fieldLink RX5 15 "JoinedLight$Text" "length" "I", .fieldLink RX5 9 "JoinedLight$Text" "signs" "[C"] ++ wsX50)
def wsX5_readOrder : List Cond := .code yX5_readOrder cX5_readOrder 4 (some .boolean) :: ([.fieldLink RX5 27 "JoinedLight$Text" "next" "I", .fieldLink RX5 19 "JoinedLight$Text" "letter" "C", .methodLink RX5 30 yX5_signAt, .instanceMethod yX5_signAt, .selects RX5 yX5_signAt yX5_signAt, .initialized RX5, .code yX5_signAt cX5_signAt 2 (some .char), .fieldLink RX5 15 "JoinedLight$Text" "length" "I", .fieldLink RX5 9 "JoinedLight$Text" "signs" "[C", .methodLink RX5 34 yX5_numbersOf, .static yX5_numbersOf, .code yX5_numbersOf cX5_numbersOf 1 (some .int), .methodLink RX5 38 yX5_readNumber, .instanceMethod yX5_readNumber, .selects RX5 yX5_readNumber yX5_readNumber, .code yX5_readNumber cX5_readNumber 4 (some .boolean), .fieldLink RX5 23 "JoinedLight$Text" "numbers" "[I", .static yX6_within, .initialized RX6, .code yX6_within cX6_within 3 (some .boolean), .methodLink RX5 42 yX5_readSign, .instanceMethod yX5_readSign, .selects RX5 yX5_readSign yX5_readSign, .code yX5_readSign cX5_readSign 2 (some .boolean)] ++ wsX50)
def wsX6_init_r1 : List Cond := [Cond.methodLink RX6 1 objectInit, Cond.instanceMethod objectInit, Cond.code objectInit ⟨#[0xb1]⟩ 1 none, Cond.classLink RX6 7 RX0, Cond.instantiable RX0 10, Cond.initialized RX0, Cond.fieldLink RX6 10 "JoinedLight" "bench" "LJoinedLight$Bench;", Cond.fieldLink RX6 16 "JoinedLight" "trial" "LJoinedLight$Bench;", Cond.classLink RX6 19 RX4, Cond.instantiable RX4 5, Cond.initialized RX4, Cond.fieldLink RX6 22 "JoinedLight" "rays" "LJoinedLight$Rays;", Cond.classLink RX6 26 RX1, Cond.instantiable RX1 4, Cond.initialized RX1, Cond.fieldLink RX6 29 "JoinedLight" "cells" "LJoinedLight$Cells;", Cond.classLink RX6 33 RX2, Cond.instantiable RX2 3, Cond.initialized RX2, Cond.fieldLink RX6 36 "JoinedLight" "choice" "LJoinedLight$Choice;", Cond.classLink RX6 40 RX3, Cond.instantiable RX3 2, Cond.initialized RX3, Cond.fieldLink RX6 43 "JoinedLight" "history" "LJoinedLight$History;"]
def wsX6_init_r2 : List Cond := [Cond.classLink RX6 47 RX5, Cond.instantiable RX5 5, Cond.initialized RX5, Cond.fieldLink RX6 50 "JoinedLight" "text" "LJoinedLight$Text;", Cond.instanceMethod yX0_init, Cond.code yX0_init cX0_init 1 none, Cond.methodLink RX0 3 objectInit, Cond.arrayClass .int, Cond.fieldLink RX0 9 "JoinedLight$Bench" "colours" "[I", Cond.fieldLink RX0 15 "JoinedLight$Bench" "lights" "[I", Cond.fieldLink RX0 18 "JoinedLight$Bench" "lineCount" "I", Cond.fieldLink RX0 22 "JoinedLight$Bench" "places" "[I", Cond.fieldLink RX0 25 "JoinedLight$Bench" "kinds" "[I", Cond.fieldLink RX0 28 "JoinedLight$Bench" "firsts" "[I", Cond.fieldLink RX0 31 "JoinedLight$Bench" "seconds" "[I", Cond.fieldLink RX0 34 "JoinedLight$Bench" "turns" "[I", Cond.fieldLink RX0 37 "JoinedLight$Bench" "thingCount" "I", Cond.fieldLink RX0 40 "JoinedLight$Bench" "cellWidth" "I", Cond.instanceMethod yX4_init, Cond.code yX4_init cX4_init 1 none, Cond.methodLink RX4 3 objectInit, Cond.fieldLink RX4 9 "JoinedLight$Rays" "heights" "[I", Cond.fieldLink RX4 15 "JoinedLight$Rays" "slopes" "[I", Cond.fieldLink RX4 18 "JoinedLight$Rays" "lostAt" "[I"]
def wsX6_init_r3 : List Cond := [Cond.fieldLink RX4 21 "JoinedLight$Rays" "lostWhy" "[I", Cond.fieldLink RX4 24 "JoinedLight$Rays" "followed" "I", Cond.instanceMethod yX1_init, Cond.code yX1_init cX1_init 1 none, Cond.methodLink RX1 3 objectInit, Cond.fieldLink RX1 9 "JoinedLight$Cells" "numbers" "[I", Cond.fieldLink RX1 15 "JoinedLight$Cells" "lights" "[I", Cond.fieldLink RX1 18 "JoinedLight$Cells" "lines" "[I", Cond.fieldLink RX1 21 "JoinedLight$Cells" "used" "I", Cond.instanceMethod yX2_init, Cond.code yX2_init cX2_init 1 none, Cond.methodLink RX2 1 objectInit, Cond.fieldLink RX2 7 "JoinedLight$Choice" "value" "I", Cond.fieldLink RX2 13 "JoinedLight$Choice" "arrivals" "I", Cond.fieldLink RX2 16 "JoinedLight$Choice" "spread" "I", Cond.instanceMethod yX3_init, Cond.code yX3_init cX3_init 1 none, Cond.methodLink RX3 3 objectInit, Cond.classLink RX3 9 RX0, Cond.fieldLink RX3 11 "JoinedLight$History" "rooms" "[LJoinedLight$Bench;", Cond.fieldLink RX3 17 "JoinedLight$History" "states" "I", Cond.instanceMethod yX5_init, Cond.code yX5_init cX5_init 1 none, Cond.methodLink RX5 3 objectInit]
def wsX6_init_r4 : List Cond := [Cond.arrayClass .char, Cond.fieldLink RX5 9 "JoinedLight$Text" "signs" "[C", Cond.fieldLink RX5 15 "JoinedLight$Text" "length" "I", Cond.fieldLink RX5 19 "JoinedLight$Text" "letter" "C", Cond.fieldLink RX5 23 "JoinedLight$Text" "numbers" "[I", Cond.fieldLink RX5 27 "JoinedLight$Text" "next" "I"]
def wsX6_init : List Cond := .code yX6_init cX6_init 1 none :: ((wsX6_init_r1 ++ (wsX6_init_r2 ++ (wsX6_init_r3 ++ wsX6_init_r4))) ++ wsX00 ++ wsX60 ++ wsX40 ++ wsX10 ++ wsX20 ++ wsX30 ++ wsX50)
def wsX6_keepTrial_r1 : List Cond := [Cond.fieldLink RX6 43 "JoinedLight" "history" "LJoinedLight$History;", Cond.fieldLink RX6 10 "JoinedLight" "bench" "LJoinedLight$Bench;", Cond.fieldLink RX6 16 "JoinedLight" "trial" "LJoinedLight$Bench;", Cond.methodLink RX6 263 yX3_record, Cond.instanceMethod yX3_record, Cond.selects RX3 yX3_record yX3_record, Cond.initialized RX3, Cond.code yX3_record cX3_record 3 none, Cond.fieldLink RX3 17 "JoinedLight$History" "states" "I", Cond.fieldLink RX3 11 "JoinedLight$History" "rooms" "[LJoinedLight$Bench;", Cond.classLink RX3 9 RX0, Cond.instantiable RX0 10, Cond.initialized RX0, Cond.methodLink RX3 21 yX3_dropOldest, Cond.instanceMethod yX3_dropOldest, Cond.selects RX3 yX3_dropOldest yX3_dropOldest, Cond.code yX3_dropOldest cX3_dropOldest 3 none, Cond.instanceMethod yX0_init, Cond.code yX0_init cX0_init 1 none, Cond.methodLink RX0 3 objectInit, Cond.instanceMethod objectInit, Cond.code objectInit ⟨#[0xb1]⟩ 1 none, Cond.arrayClass .int, Cond.fieldLink RX0 9 "JoinedLight$Bench" "colours" "[I"]
def wsX6_keepTrial_r2 : List Cond := [Cond.fieldLink RX0 15 "JoinedLight$Bench" "lights" "[I", Cond.fieldLink RX0 18 "JoinedLight$Bench" "lineCount" "I", Cond.fieldLink RX0 22 "JoinedLight$Bench" "places" "[I", Cond.fieldLink RX0 25 "JoinedLight$Bench" "kinds" "[I", Cond.fieldLink RX0 28 "JoinedLight$Bench" "firsts" "[I", Cond.fieldLink RX0 31 "JoinedLight$Bench" "seconds" "[I", Cond.fieldLink RX0 34 "JoinedLight$Bench" "turns" "[I", Cond.fieldLink RX0 37 "JoinedLight$Bench" "thingCount" "I", Cond.fieldLink RX0 40 "JoinedLight$Bench" "cellWidth" "I", Cond.methodLink RX3 25 yX0_copyFrom, Cond.instanceMethod yX0_copyFrom, Cond.selects RX0 yX0_copyFrom yX0_copyFrom, Cond.code yX0_copyFrom cX0_copyFrom 2 none, Cond.methodLink RX0 43 arraycopyName, Cond.native arraycopyName, Cond.static arraycopyName, Cond.initialized "java/lang/System", Cond.methodLink RX6 54 yX0_copyFrom]
def wsX6_keepTrial : List Cond := .code yX6_keepTrial cX6_keepTrial 2 (some .int) :: ((wsX6_keepTrial_r1 ++ wsX6_keepTrial_r2) ++ wsX60 ++ wsX30 ++ wsX00)
def wsX6_line_r1 : List Cond := [Cond.fieldLink RX6 16 "JoinedLight" "trial" "LJoinedLight$Bench;", Cond.fieldLink RX6 10 "JoinedLight" "bench" "LJoinedLight$Bench;", Cond.methodLink RX6 54 yX0_copyFrom, Cond.instanceMethod yX0_copyFrom, Cond.selects RX0 yX0_copyFrom yX0_copyFrom, Cond.initialized RX0, Cond.code yX0_copyFrom cX0_copyFrom 2 none, Cond.fieldLink RX0 9 "JoinedLight$Bench" "colours" "[I", Cond.methodLink RX0 43 arraycopyName, Cond.native arraycopyName, Cond.static arraycopyName, Cond.initialized "java/lang/System", Cond.fieldLink RX0 15 "JoinedLight$Bench" "lights" "[I", Cond.fieldLink RX0 18 "JoinedLight$Bench" "lineCount" "I", Cond.fieldLink RX0 22 "JoinedLight$Bench" "places" "[I", Cond.fieldLink RX0 25 "JoinedLight$Bench" "kinds" "[I", Cond.fieldLink RX0 28 "JoinedLight$Bench" "firsts" "[I", Cond.fieldLink RX0 31 "JoinedLight$Bench" "seconds" "[I", Cond.fieldLink RX0 34 "JoinedLight$Bench" "turns" "[I", Cond.fieldLink RX0 37 "JoinedLight$Bench" "thingCount" "I", Cond.fieldLink RX0 40 "JoinedLight$Bench" "cellWidth" "I", Cond.methodLink RX6 58 yX0_addLine, Cond.instanceMethod yX0_addLine, Cond.selects RX0 yX0_addLine yX0_addLine]
def wsX6_line_r2 : List Cond := [Cond.code yX0_addLine cX0_addLine 4 (some .int), Cond.constant RX0 66 (-1000000001), Cond.constant RX0 67 (-1000000003), Cond.static yX6_within, Cond.initialized RX6, Cond.code yX6_within cX6_within 3 (some .boolean), Cond.methodLink RX6 62 yX6_keepTrial, Cond.instanceMethod yX6_keepTrial, Cond.selects RX6 yX6_keepTrial yX6_keepTrial, Cond.code yX6_keepTrial cX6_keepTrial 2 (some .int), Cond.fieldLink RX6 43 "JoinedLight" "history" "LJoinedLight$History;", Cond.methodLink RX6 263 yX3_record, Cond.instanceMethod yX3_record, Cond.selects RX3 yX3_record yX3_record, Cond.initialized RX3, Cond.code yX3_record cX3_record 3 none, Cond.fieldLink RX3 17 "JoinedLight$History" "states" "I", Cond.fieldLink RX3 11 "JoinedLight$History" "rooms" "[LJoinedLight$Bench;", Cond.classLink RX3 9 RX0, Cond.instantiable RX0 10, Cond.methodLink RX3 21 yX3_dropOldest, Cond.instanceMethod yX3_dropOldest, Cond.selects RX3 yX3_dropOldest yX3_dropOldest, Cond.code yX3_dropOldest cX3_dropOldest 3 none]
def wsX6_line_r3 : List Cond := [Cond.instanceMethod yX0_init, Cond.code yX0_init cX0_init 1 none, Cond.methodLink RX0 3 objectInit, Cond.instanceMethod objectInit, Cond.code objectInit ⟨#[0xb1]⟩ 1 none, Cond.arrayClass .int, Cond.methodLink RX3 25 yX0_copyFrom]
def wsX6_line : List Cond := .code yX6_line cX6_line 3 (some .int) :: ((wsX6_line_r1 ++ (wsX6_line_r2 ++ wsX6_line_r3)) ++ wsX60 ++ wsX00 ++ wsX30)
def wsX6_dim_r1 : List Cond := [Cond.fieldLink RX6 16 "JoinedLight" "trial" "LJoinedLight$Bench;", Cond.fieldLink RX6 10 "JoinedLight" "bench" "LJoinedLight$Bench;", Cond.methodLink RX6 54 yX0_copyFrom, Cond.instanceMethod yX0_copyFrom, Cond.selects RX0 yX0_copyFrom yX0_copyFrom, Cond.initialized RX0, Cond.code yX0_copyFrom cX0_copyFrom 2 none, Cond.fieldLink RX0 9 "JoinedLight$Bench" "colours" "[I", Cond.methodLink RX0 43 arraycopyName, Cond.native arraycopyName, Cond.static arraycopyName, Cond.initialized "java/lang/System", Cond.fieldLink RX0 15 "JoinedLight$Bench" "lights" "[I", Cond.fieldLink RX0 18 "JoinedLight$Bench" "lineCount" "I", Cond.fieldLink RX0 22 "JoinedLight$Bench" "places" "[I", Cond.fieldLink RX0 25 "JoinedLight$Bench" "kinds" "[I", Cond.fieldLink RX0 28 "JoinedLight$Bench" "firsts" "[I", Cond.fieldLink RX0 31 "JoinedLight$Bench" "seconds" "[I", Cond.fieldLink RX0 34 "JoinedLight$Bench" "turns" "[I", Cond.fieldLink RX0 37 "JoinedLight$Bench" "thingCount" "I", Cond.fieldLink RX0 40 "JoinedLight$Bench" "cellWidth" "I", Cond.methodLink RX6 66 yX0_changeLight, Cond.instanceMethod yX0_changeLight, Cond.selects RX0 yX0_changeLight yX0_changeLight]
def wsX6_dim_r2 : List Cond := [Cond.code yX0_changeLight cX0_changeLight 4 (some .int), Cond.constant RX0 66 (-1000000001), Cond.methodLink RX0 59 yX0_hasLine, Cond.instanceMethod yX0_hasLine, Cond.selects RX0 yX0_hasLine yX0_hasLine, Cond.code yX0_hasLine cX0_hasLine 2 (some .boolean), Cond.static yX6_within, Cond.initialized RX6, Cond.code yX6_within cX6_within 3 (some .boolean), Cond.methodLink RX6 62 yX6_keepTrial, Cond.instanceMethod yX6_keepTrial, Cond.selects RX6 yX6_keepTrial yX6_keepTrial, Cond.code yX6_keepTrial cX6_keepTrial 2 (some .int), Cond.fieldLink RX6 43 "JoinedLight" "history" "LJoinedLight$History;", Cond.methodLink RX6 263 yX3_record, Cond.instanceMethod yX3_record, Cond.selects RX3 yX3_record yX3_record, Cond.initialized RX3, Cond.code yX3_record cX3_record 3 none, Cond.fieldLink RX3 17 "JoinedLight$History" "states" "I", Cond.fieldLink RX3 11 "JoinedLight$History" "rooms" "[LJoinedLight$Bench;", Cond.classLink RX3 9 RX0, Cond.instantiable RX0 10, Cond.methodLink RX3 21 yX3_dropOldest]
def wsX6_dim_r3 : List Cond := [Cond.instanceMethod yX3_dropOldest, Cond.selects RX3 yX3_dropOldest yX3_dropOldest, Cond.code yX3_dropOldest cX3_dropOldest 3 none, Cond.instanceMethod yX0_init, Cond.code yX0_init cX0_init 1 none, Cond.methodLink RX0 3 objectInit, Cond.instanceMethod objectInit, Cond.code objectInit ⟨#[0xb1]⟩ 1 none, Cond.arrayClass .int, Cond.methodLink RX3 25 yX0_copyFrom]
def wsX6_dim : List Cond := .code yX6_dim cX6_dim 3 (some .int) :: ((wsX6_dim_r1 ++ (wsX6_dim_r2 ++ wsX6_dim_r3)) ++ wsX60 ++ wsX00 ++ wsX30)
def wsX6_prism_r1 : List Cond := [Cond.fieldLink RX6 16 "JoinedLight" "trial" "LJoinedLight$Bench;", Cond.fieldLink RX6 10 "JoinedLight" "bench" "LJoinedLight$Bench;", Cond.methodLink RX6 54 yX0_copyFrom, Cond.instanceMethod yX0_copyFrom, Cond.selects RX0 yX0_copyFrom yX0_copyFrom, Cond.initialized RX0, Cond.code yX0_copyFrom cX0_copyFrom 2 none, Cond.fieldLink RX0 9 "JoinedLight$Bench" "colours" "[I", Cond.methodLink RX0 43 arraycopyName, Cond.native arraycopyName, Cond.static arraycopyName, Cond.initialized "java/lang/System", Cond.fieldLink RX0 15 "JoinedLight$Bench" "lights" "[I", Cond.fieldLink RX0 18 "JoinedLight$Bench" "lineCount" "I", Cond.fieldLink RX0 22 "JoinedLight$Bench" "places" "[I", Cond.fieldLink RX0 25 "JoinedLight$Bench" "kinds" "[I", Cond.fieldLink RX0 28 "JoinedLight$Bench" "firsts" "[I", Cond.fieldLink RX0 31 "JoinedLight$Bench" "seconds" "[I", Cond.fieldLink RX0 34 "JoinedLight$Bench" "turns" "[I", Cond.fieldLink RX0 37 "JoinedLight$Bench" "thingCount" "I", Cond.fieldLink RX0 40 "JoinedLight$Bench" "cellWidth" "I", Cond.methodLink RX6 69 yX0_addPrism, Cond.instanceMethod yX0_addPrism, Cond.selects RX0 yX0_addPrism yX0_addPrism]
def wsX6_prism_r2 : List Cond := [Cond.code yX0_addPrism cX0_addPrism 6 (some .int), Cond.constant RX0 66 (-1000000001), Cond.static yX6_within, Cond.initialized RX6, Cond.code yX6_within cX6_within 3 (some .boolean), Cond.methodLink RX0 68 yX0_addThing, Cond.instanceMethod yX0_addThing, Cond.selects RX0 yX0_addThing yX0_addThing, Cond.code yX0_addThing cX0_addThing 8 (some .int), Cond.constant RX0 76 (-1000000002), Cond.constant RX0 67 (-1000000003), Cond.methodLink RX0 72 yX0_indexOf, Cond.instanceMethod yX0_indexOf, Cond.selects RX0 yX0_indexOf yX0_indexOf, Cond.code yX0_indexOf cX0_indexOf 3 (some .int), Cond.methodLink RX0 49 yX0_hasThing, Cond.instanceMethod yX0_hasThing, Cond.selects RX0 yX0_hasThing yX0_hasThing, Cond.code yX0_hasThing cX0_hasThing 2 (some .boolean), Cond.methodLink RX0 77 yX0_thingsAhead, Cond.instanceMethod yX0_thingsAhead, Cond.selects RX0 yX0_thingsAhead yX0_thingsAhead, Cond.code yX0_thingsAhead cX0_thingsAhead 3 (some .int), Cond.methodLink RX0 80 yX0_copyThing]
def wsX6_prism_r3 : List Cond := [Cond.instanceMethod yX0_copyThing, Cond.selects RX0 yX0_copyThing yX0_copyThing, Cond.code yX0_copyThing cX0_copyThing 3 none, Cond.methodLink RX6 62 yX6_keepTrial, Cond.instanceMethod yX6_keepTrial, Cond.selects RX6 yX6_keepTrial yX6_keepTrial, Cond.code yX6_keepTrial cX6_keepTrial 2 (some .int), Cond.fieldLink RX6 43 "JoinedLight" "history" "LJoinedLight$History;", Cond.methodLink RX6 263 yX3_record, Cond.instanceMethod yX3_record, Cond.selects RX3 yX3_record yX3_record, Cond.initialized RX3, Cond.code yX3_record cX3_record 3 none, Cond.fieldLink RX3 17 "JoinedLight$History" "states" "I", Cond.fieldLink RX3 11 "JoinedLight$History" "rooms" "[LJoinedLight$Bench;", Cond.classLink RX3 9 RX0, Cond.instantiable RX0 10, Cond.methodLink RX3 21 yX3_dropOldest, Cond.instanceMethod yX3_dropOldest, Cond.selects RX3 yX3_dropOldest yX3_dropOldest, Cond.code yX3_dropOldest cX3_dropOldest 3 none, Cond.instanceMethod yX0_init, Cond.code yX0_init cX0_init 1 none, Cond.methodLink RX0 3 objectInit]
def wsX6_prism_r4 : List Cond := [Cond.instanceMethod objectInit, Cond.code objectInit ⟨#[0xb1]⟩ 1 none, Cond.arrayClass .int, Cond.methodLink RX3 25 yX0_copyFrom]
def wsX6_prism : List Cond := .code yX6_prism cX6_prism 5 (some .int) :: ((wsX6_prism_r1 ++ (wsX6_prism_r2 ++ (wsX6_prism_r3 ++ wsX6_prism_r4))) ++ wsX60 ++ wsX00 ++ wsX30)
def wsX6_slit_r1 : List Cond := [Cond.fieldLink RX6 16 "JoinedLight" "trial" "LJoinedLight$Bench;", Cond.fieldLink RX6 10 "JoinedLight" "bench" "LJoinedLight$Bench;", Cond.methodLink RX6 54 yX0_copyFrom, Cond.instanceMethod yX0_copyFrom, Cond.selects RX0 yX0_copyFrom yX0_copyFrom, Cond.initialized RX0, Cond.code yX0_copyFrom cX0_copyFrom 2 none, Cond.fieldLink RX0 9 "JoinedLight$Bench" "colours" "[I", Cond.methodLink RX0 43 arraycopyName, Cond.native arraycopyName, Cond.static arraycopyName, Cond.initialized "java/lang/System", Cond.fieldLink RX0 15 "JoinedLight$Bench" "lights" "[I", Cond.fieldLink RX0 18 "JoinedLight$Bench" "lineCount" "I", Cond.fieldLink RX0 22 "JoinedLight$Bench" "places" "[I", Cond.fieldLink RX0 25 "JoinedLight$Bench" "kinds" "[I", Cond.fieldLink RX0 28 "JoinedLight$Bench" "firsts" "[I", Cond.fieldLink RX0 31 "JoinedLight$Bench" "seconds" "[I", Cond.fieldLink RX0 34 "JoinedLight$Bench" "turns" "[I", Cond.fieldLink RX0 37 "JoinedLight$Bench" "thingCount" "I", Cond.fieldLink RX0 40 "JoinedLight$Bench" "cellWidth" "I", Cond.methodLink RX6 73 yX0_addSlit, Cond.instanceMethod yX0_addSlit, Cond.selects RX0 yX0_addSlit yX0_addSlit]
def wsX6_slit_r2 : List Cond := [Cond.code yX0_addSlit cX0_addSlit 5 (some .int), Cond.constant RX0 66 (-1000000001), Cond.static yX6_within, Cond.initialized RX6, Cond.code yX6_within cX6_within 3 (some .boolean), Cond.methodLink RX0 68 yX0_addThing, Cond.instanceMethod yX0_addThing, Cond.selects RX0 yX0_addThing yX0_addThing, Cond.code yX0_addThing cX0_addThing 8 (some .int), Cond.constant RX0 76 (-1000000002), Cond.constant RX0 67 (-1000000003), Cond.methodLink RX0 72 yX0_indexOf, Cond.instanceMethod yX0_indexOf, Cond.selects RX0 yX0_indexOf yX0_indexOf, Cond.code yX0_indexOf cX0_indexOf 3 (some .int), Cond.methodLink RX0 49 yX0_hasThing, Cond.instanceMethod yX0_hasThing, Cond.selects RX0 yX0_hasThing yX0_hasThing, Cond.code yX0_hasThing cX0_hasThing 2 (some .boolean), Cond.methodLink RX0 77 yX0_thingsAhead, Cond.instanceMethod yX0_thingsAhead, Cond.selects RX0 yX0_thingsAhead yX0_thingsAhead, Cond.code yX0_thingsAhead cX0_thingsAhead 3 (some .int), Cond.methodLink RX0 80 yX0_copyThing]
def wsX6_slit_r3 : List Cond := [Cond.instanceMethod yX0_copyThing, Cond.selects RX0 yX0_copyThing yX0_copyThing, Cond.code yX0_copyThing cX0_copyThing 3 none, Cond.methodLink RX6 62 yX6_keepTrial, Cond.instanceMethod yX6_keepTrial, Cond.selects RX6 yX6_keepTrial yX6_keepTrial, Cond.code yX6_keepTrial cX6_keepTrial 2 (some .int), Cond.fieldLink RX6 43 "JoinedLight" "history" "LJoinedLight$History;", Cond.methodLink RX6 263 yX3_record, Cond.instanceMethod yX3_record, Cond.selects RX3 yX3_record yX3_record, Cond.initialized RX3, Cond.code yX3_record cX3_record 3 none, Cond.fieldLink RX3 17 "JoinedLight$History" "states" "I", Cond.fieldLink RX3 11 "JoinedLight$History" "rooms" "[LJoinedLight$Bench;", Cond.classLink RX3 9 RX0, Cond.instantiable RX0 10, Cond.methodLink RX3 21 yX3_dropOldest, Cond.instanceMethod yX3_dropOldest, Cond.selects RX3 yX3_dropOldest yX3_dropOldest, Cond.code yX3_dropOldest cX3_dropOldest 3 none, Cond.instanceMethod yX0_init, Cond.code yX0_init cX0_init 1 none, Cond.methodLink RX0 3 objectInit]
def wsX6_slit_r4 : List Cond := [Cond.instanceMethod objectInit, Cond.code objectInit ⟨#[0xb1]⟩ 1 none, Cond.arrayClass .int, Cond.methodLink RX3 25 yX0_copyFrom]
def wsX6_slit : List Cond := .code yX6_slit cX6_slit 4 (some .int) :: ((wsX6_slit_r1 ++ (wsX6_slit_r2 ++ (wsX6_slit_r3 ++ wsX6_slit_r4))) ++ wsX60 ++ wsX00 ++ wsX30)
def wsX6_take_r1 : List Cond := [Cond.fieldLink RX6 16 "JoinedLight" "trial" "LJoinedLight$Bench;", Cond.fieldLink RX6 10 "JoinedLight" "bench" "LJoinedLight$Bench;", Cond.methodLink RX6 54 yX0_copyFrom, Cond.instanceMethod yX0_copyFrom, Cond.selects RX0 yX0_copyFrom yX0_copyFrom, Cond.initialized RX0, Cond.code yX0_copyFrom cX0_copyFrom 2 none, Cond.fieldLink RX0 9 "JoinedLight$Bench" "colours" "[I", Cond.methodLink RX0 43 arraycopyName, Cond.native arraycopyName, Cond.static arraycopyName, Cond.initialized "java/lang/System", Cond.fieldLink RX0 15 "JoinedLight$Bench" "lights" "[I", Cond.fieldLink RX0 18 "JoinedLight$Bench" "lineCount" "I", Cond.fieldLink RX0 22 "JoinedLight$Bench" "places" "[I", Cond.fieldLink RX0 25 "JoinedLight$Bench" "kinds" "[I", Cond.fieldLink RX0 28 "JoinedLight$Bench" "firsts" "[I", Cond.fieldLink RX0 31 "JoinedLight$Bench" "seconds" "[I", Cond.fieldLink RX0 34 "JoinedLight$Bench" "turns" "[I", Cond.fieldLink RX0 37 "JoinedLight$Bench" "thingCount" "I", Cond.fieldLink RX0 40 "JoinedLight$Bench" "cellWidth" "I", Cond.methodLink RX6 77 yX0_removeThing, Cond.instanceMethod yX0_removeThing, Cond.selects RX0 yX0_removeThing yX0_removeThing]
def wsX6_take_r2 : List Cond := [Cond.code yX0_removeThing cX0_removeThing 4 (some .int), Cond.constant RX0 66 (-1000000001), Cond.methodLink RX0 72 yX0_indexOf, Cond.instanceMethod yX0_indexOf, Cond.selects RX0 yX0_indexOf yX0_indexOf, Cond.code yX0_indexOf cX0_indexOf 3 (some .int), Cond.methodLink RX0 49 yX0_hasThing, Cond.instanceMethod yX0_hasThing, Cond.selects RX0 yX0_hasThing yX0_hasThing, Cond.code yX0_hasThing cX0_hasThing 2 (some .boolean), Cond.methodLink RX0 80 yX0_copyThing, Cond.instanceMethod yX0_copyThing, Cond.selects RX0 yX0_copyThing yX0_copyThing, Cond.code yX0_copyThing cX0_copyThing 3 none, Cond.methodLink RX6 62 yX6_keepTrial, Cond.instanceMethod yX6_keepTrial, Cond.selects RX6 yX6_keepTrial yX6_keepTrial, Cond.initialized RX6, Cond.code yX6_keepTrial cX6_keepTrial 2 (some .int), Cond.fieldLink RX6 43 "JoinedLight" "history" "LJoinedLight$History;", Cond.methodLink RX6 263 yX3_record, Cond.instanceMethod yX3_record, Cond.selects RX3 yX3_record yX3_record, Cond.initialized RX3]
def wsX6_take_r3 : List Cond := [Cond.code yX3_record cX3_record 3 none, Cond.fieldLink RX3 17 "JoinedLight$History" "states" "I", Cond.fieldLink RX3 11 "JoinedLight$History" "rooms" "[LJoinedLight$Bench;", Cond.classLink RX3 9 RX0, Cond.instantiable RX0 10, Cond.methodLink RX3 21 yX3_dropOldest, Cond.instanceMethod yX3_dropOldest, Cond.selects RX3 yX3_dropOldest yX3_dropOldest, Cond.code yX3_dropOldest cX3_dropOldest 3 none, Cond.instanceMethod yX0_init, Cond.code yX0_init cX0_init 1 none, Cond.methodLink RX0 3 objectInit, Cond.instanceMethod objectInit, Cond.code objectInit ⟨#[0xb1]⟩ 1 none, Cond.arrayClass .int, Cond.methodLink RX3 25 yX0_copyFrom]
def wsX6_take : List Cond := .code yX6_take cX6_take 2 (some .int) :: ((wsX6_take_r1 ++ (wsX6_take_r2 ++ wsX6_take_r3)) ++ wsX60 ++ wsX00 ++ wsX30)
def wsX6_move_r1 : List Cond := [Cond.fieldLink RX6 16 "JoinedLight" "trial" "LJoinedLight$Bench;", Cond.fieldLink RX6 10 "JoinedLight" "bench" "LJoinedLight$Bench;", Cond.methodLink RX6 54 yX0_copyFrom, Cond.instanceMethod yX0_copyFrom, Cond.selects RX0 yX0_copyFrom yX0_copyFrom, Cond.initialized RX0, Cond.code yX0_copyFrom cX0_copyFrom 2 none, Cond.fieldLink RX0 9 "JoinedLight$Bench" "colours" "[I", Cond.methodLink RX0 43 arraycopyName, Cond.native arraycopyName, Cond.static arraycopyName, Cond.initialized "java/lang/System", Cond.fieldLink RX0 15 "JoinedLight$Bench" "lights" "[I", Cond.fieldLink RX0 18 "JoinedLight$Bench" "lineCount" "I", Cond.fieldLink RX0 22 "JoinedLight$Bench" "places" "[I", Cond.fieldLink RX0 25 "JoinedLight$Bench" "kinds" "[I", Cond.fieldLink RX0 28 "JoinedLight$Bench" "firsts" "[I", Cond.fieldLink RX0 31 "JoinedLight$Bench" "seconds" "[I", Cond.fieldLink RX0 34 "JoinedLight$Bench" "turns" "[I", Cond.fieldLink RX0 37 "JoinedLight$Bench" "thingCount" "I", Cond.fieldLink RX0 40 "JoinedLight$Bench" "cellWidth" "I", Cond.methodLink RX6 80 yX0_moveThing, Cond.instanceMethod yX0_moveThing, Cond.selects RX0 yX0_moveThing yX0_moveThing]
def wsX6_move_r2 : List Cond := [Cond.code yX0_moveThing cX0_moveThing 8 (some .int), Cond.constant RX0 66 (-1000000001), Cond.constant RX0 76 (-1000000002), Cond.methodLink RX0 72 yX0_indexOf, Cond.instanceMethod yX0_indexOf, Cond.selects RX0 yX0_indexOf yX0_indexOf, Cond.code yX0_indexOf cX0_indexOf 3 (some .int), Cond.methodLink RX0 49 yX0_hasThing, Cond.instanceMethod yX0_hasThing, Cond.selects RX0 yX0_hasThing yX0_hasThing, Cond.code yX0_hasThing cX0_hasThing 2 (some .boolean), Cond.static yX6_within, Cond.initialized RX6, Cond.code yX6_within cX6_within 3 (some .boolean), Cond.methodLink RX0 84 yX0_removeThing, Cond.instanceMethod yX0_removeThing, Cond.selects RX0 yX0_removeThing yX0_removeThing, Cond.code yX0_removeThing cX0_removeThing 4 (some .int), Cond.methodLink RX0 80 yX0_copyThing, Cond.instanceMethod yX0_copyThing, Cond.selects RX0 yX0_copyThing yX0_copyThing, Cond.code yX0_copyThing cX0_copyThing 3 none, Cond.methodLink RX0 68 yX0_addThing, Cond.instanceMethod yX0_addThing]
def wsX6_move_r3 : List Cond := [Cond.selects RX0 yX0_addThing yX0_addThing, Cond.code yX0_addThing cX0_addThing 8 (some .int), Cond.constant RX0 67 (-1000000003), Cond.methodLink RX0 77 yX0_thingsAhead, Cond.instanceMethod yX0_thingsAhead, Cond.selects RX0 yX0_thingsAhead yX0_thingsAhead, Cond.code yX0_thingsAhead cX0_thingsAhead 3 (some .int), Cond.methodLink RX6 62 yX6_keepTrial, Cond.instanceMethod yX6_keepTrial, Cond.selects RX6 yX6_keepTrial yX6_keepTrial, Cond.code yX6_keepTrial cX6_keepTrial 2 (some .int), Cond.fieldLink RX6 43 "JoinedLight" "history" "LJoinedLight$History;", Cond.methodLink RX6 263 yX3_record, Cond.instanceMethod yX3_record, Cond.selects RX3 yX3_record yX3_record, Cond.initialized RX3, Cond.code yX3_record cX3_record 3 none, Cond.fieldLink RX3 17 "JoinedLight$History" "states" "I", Cond.fieldLink RX3 11 "JoinedLight$History" "rooms" "[LJoinedLight$Bench;", Cond.classLink RX3 9 RX0, Cond.instantiable RX0 10, Cond.methodLink RX3 21 yX3_dropOldest, Cond.instanceMethod yX3_dropOldest, Cond.selects RX3 yX3_dropOldest yX3_dropOldest]
def wsX6_move_r4 : List Cond := [Cond.code yX3_dropOldest cX3_dropOldest 3 none, Cond.instanceMethod yX0_init, Cond.code yX0_init cX0_init 1 none, Cond.methodLink RX0 3 objectInit, Cond.instanceMethod objectInit, Cond.code objectInit ⟨#[0xb1]⟩ 1 none, Cond.arrayClass .int, Cond.methodLink RX3 25 yX0_copyFrom]
def wsX6_move : List Cond := .code yX6_move cX6_move 3 (some .int) :: ((wsX6_move_r1 ++ (wsX6_move_r2 ++ (wsX6_move_r3 ++ wsX6_move_r4))) ++ wsX60 ++ wsX00 ++ wsX30)
def wsX6_set_r1 : List Cond := [Cond.fieldLink RX6 16 "JoinedLight" "trial" "LJoinedLight$Bench;", Cond.fieldLink RX6 10 "JoinedLight" "bench" "LJoinedLight$Bench;", Cond.methodLink RX6 54 yX0_copyFrom, Cond.instanceMethod yX0_copyFrom, Cond.selects RX0 yX0_copyFrom yX0_copyFrom, Cond.initialized RX0, Cond.code yX0_copyFrom cX0_copyFrom 2 none, Cond.fieldLink RX0 9 "JoinedLight$Bench" "colours" "[I", Cond.methodLink RX0 43 arraycopyName, Cond.native arraycopyName, Cond.static arraycopyName, Cond.initialized "java/lang/System", Cond.fieldLink RX0 15 "JoinedLight$Bench" "lights" "[I", Cond.fieldLink RX0 18 "JoinedLight$Bench" "lineCount" "I", Cond.fieldLink RX0 22 "JoinedLight$Bench" "places" "[I", Cond.fieldLink RX0 25 "JoinedLight$Bench" "kinds" "[I", Cond.fieldLink RX0 28 "JoinedLight$Bench" "firsts" "[I", Cond.fieldLink RX0 31 "JoinedLight$Bench" "seconds" "[I", Cond.fieldLink RX0 34 "JoinedLight$Bench" "turns" "[I", Cond.fieldLink RX0 37 "JoinedLight$Bench" "thingCount" "I", Cond.fieldLink RX0 40 "JoinedLight$Bench" "cellWidth" "I", Cond.methodLink RX6 83 yX0_changeSetting, Cond.instanceMethod yX0_changeSetting, Cond.selects RX0 yX0_changeSetting yX0_changeSetting]
def wsX6_set_r2 : List Cond := [Cond.code yX0_changeSetting cX0_changeSetting 4 (some .int), Cond.constant RX0 66 (-1000000001), Cond.static yX6_within, Cond.initialized RX6, Cond.code yX6_within cX6_within 3 (some .boolean), Cond.methodLink RX6 62 yX6_keepTrial, Cond.instanceMethod yX6_keepTrial, Cond.selects RX6 yX6_keepTrial yX6_keepTrial, Cond.code yX6_keepTrial cX6_keepTrial 2 (some .int), Cond.fieldLink RX6 43 "JoinedLight" "history" "LJoinedLight$History;", Cond.methodLink RX6 263 yX3_record, Cond.instanceMethod yX3_record, Cond.selects RX3 yX3_record yX3_record, Cond.initialized RX3, Cond.code yX3_record cX3_record 3 none, Cond.fieldLink RX3 17 "JoinedLight$History" "states" "I", Cond.fieldLink RX3 11 "JoinedLight$History" "rooms" "[LJoinedLight$Bench;", Cond.classLink RX3 9 RX0, Cond.instantiable RX0 10, Cond.methodLink RX3 21 yX3_dropOldest, Cond.instanceMethod yX3_dropOldest, Cond.selects RX3 yX3_dropOldest yX3_dropOldest, Cond.code yX3_dropOldest cX3_dropOldest 3 none, Cond.instanceMethod yX0_init]
def wsX6_set_r3 : List Cond := [Cond.code yX0_init cX0_init 1 none, Cond.methodLink RX0 3 objectInit, Cond.instanceMethod objectInit, Cond.code objectInit ⟨#[0xb1]⟩ 1 none, Cond.arrayClass .int, Cond.methodLink RX3 25 yX0_copyFrom]
def wsX6_set : List Cond := .code yX6_set cX6_set 3 (some .int) :: ((wsX6_set_r1 ++ (wsX6_set_r2 ++ wsX6_set_r3)) ++ wsX60 ++ wsX00 ++ wsX30)
def wsX6_oneIf : List Cond := .code yX6_oneIf cX6_oneIf 1 (some .int) :: ([])
def wsX6_lineOf_r1 : List Cond := [Cond.fieldLink RX6 10 "JoinedLight" "bench" "LJoinedLight$Bench;", Cond.constant RX6 94 (-1000000001), Cond.fieldLink RX6 22 "JoinedLight" "rays" "LJoinedLight$Rays;", Cond.fieldLink RX6 101 "JoinedLight$Bench" "colours" "[I", Cond.fieldLink RX6 105 "JoinedLight$Bench" "lights" "[I", Cond.fieldLink RX6 112 "JoinedLight$Rays" "heights" "[I", Cond.constant RX6 115 (-1000000004), Cond.fieldLink RX6 116 "JoinedLight$Rays" "slopes" "[I", Cond.fieldLink RX6 122 "JoinedLight$Rays" "lostAt" "[I", Cond.fieldLink RX6 125 "JoinedLight$Rays" "lostWhy" "[I", Cond.methodLink RX6 86 yX0_hasLine, Cond.instanceMethod yX0_hasLine, Cond.selects RX0 yX0_hasLine yX0_hasLine, Cond.initialized RX0, Cond.code yX0_hasLine cX0_hasLine 2 (some .boolean), Cond.fieldLink RX0 18 "JoinedLight$Bench" "lineCount" "I", Cond.methodLink RX6 90 yX6_within, Cond.static yX6_within, Cond.initialized RX6, Cond.code yX6_within cX6_within 3 (some .boolean), Cond.methodLink RX6 95 yX4_follow, Cond.instanceMethod yX4_follow, Cond.selects RX4 yX4_follow yX4_follow, Cond.initialized RX4]
def wsX6_lineOf_r2 : List Cond := [Cond.code yX4_follow cX4_follow 3 none, Cond.fieldLink RX4 38 "JoinedLight$Bench" "lineCount" "I", Cond.fieldLink RX4 24 "JoinedLight$Rays" "followed" "I", Cond.methodLink RX4 28 yX0_hasLine, Cond.methodLink RX4 34 yX4_followLine, Cond.instanceMethod yX4_followLine, Cond.selects RX4 yX4_followLine yX4_followLine, Cond.code yX4_followLine cX4_followLine 10 none, Cond.fieldLink RX4 41 "JoinedLight$Bench" "colours" "[I", Cond.fieldLink RX4 47 "JoinedLight$Bench" "places" "[I", Cond.fieldLink RX4 9 "JoinedLight$Rays" "heights" "[I", Cond.fieldLink RX4 15 "JoinedLight$Rays" "slopes" "[I", Cond.methodLink RX4 44 yX0_hasThing, Cond.instanceMethod yX0_hasThing, Cond.selects RX0 yX0_hasThing yX0_hasThing, Cond.code yX0_hasThing cX0_hasThing 2 (some .boolean), Cond.fieldLink RX0 37 "JoinedLight$Bench" "thingCount" "I", Cond.methodLink RX4 50 yX4_rise, Cond.static yX4_rise, Cond.code yX4_rise cX4_rise 2 (some .int), Cond.methodLink RX4 67 yJ9_floorDiv_7cf53, Cond.static yJ9_floorDiv_7cf53, Cond.initialized RJ9, Cond.code yJ9_floorDiv_7cf53 cJ9_floorDiv_7cf53 3 (some .int)]
def wsX6_lineOf_r3 : List Cond := [Cond.methodLink RX4 54 yX0_whyLostAt, Cond.instanceMethod yX0_whyLostAt, Cond.selects RX0 yX0_whyLostAt yX0_whyLostAt, Cond.code yX0_whyLostAt cX0_whyLostAt 4 (some .int), Cond.fieldLink RX0 25 "JoinedLight$Bench" "kinds" "[I", Cond.fieldLink RX0 28 "JoinedLight$Bench" "firsts" "[I", Cond.fieldLink RX0 31 "JoinedLight$Bench" "seconds" "[I", Cond.methodLink RX0 90 yX0_isBeyond, Cond.static yX0_isBeyond, Cond.code yX0_isBeyond cX0_isBeyond 1 (some .boolean), Cond.methodLink RX0 49 yX0_hasThing, Cond.methodLink RX4 57 yX4_finish, Cond.instanceMethod yX4_finish, Cond.selects RX4 yX4_finish yX4_finish, Cond.code yX4_finish cX4_finish 4 none, Cond.fieldLink RX4 18 "JoinedLight$Rays" "lostAt" "[I", Cond.fieldLink RX4 21 "JoinedLight$Rays" "lostWhy" "[I", Cond.methodLink RX4 61 yX0_bendAt, Cond.instanceMethod yX0_bendAt, Cond.selects RX0 yX0_bendAt yX0_bendAt, Cond.code yX0_bendAt cX0_bendAt 4 (some .int), Cond.fieldLink RX0 34 "JoinedLight$Bench" "turns" "[I", Cond.static yX6_bendingOf, Cond.code yX6_bendingOf cX6_bendingOf 3 (some .int)]
def wsX6_lineOf_r4 : List Cond := [Cond.methodLink RX6 258 yJ9_floorDiv_7cf53, Cond.methodLink RX0 53 yJ9_floorDiv_7cf53, Cond.methodLink RX4 64 yX0_isBeyond, Cond.methodLink RX6 98 yX4_comes, Cond.instanceMethod yX4_comes, Cond.selects RX4 yX4_comes yX4_comes, Cond.code yX4_comes cX4_comes 2 (some .boolean), Cond.methodLink RX6 108 yX6_oneIf, Cond.static yX6_oneIf, Cond.code yX6_oneIf cX6_oneIf 1 (some .int), Cond.methodLink RX6 119 yX0_cellOf, Cond.instanceMethod yX0_cellOf, Cond.selects RX0 yX0_cellOf yX0_cellOf, Cond.code yX0_cellOf cX0_cellOf 2 (some .int), Cond.fieldLink RX0 40 "JoinedLight$Bench" "cellWidth" "I"]
def wsX6_lineOf : List Cond := .code yX6_lineOf cX6_lineOf 4 (some .int) :: ((wsX6_lineOf_r1 ++ (wsX6_lineOf_r2 ++ (wsX6_lineOf_r3 ++ wsX6_lineOf_r4))) ++ wsX60 ++ wsX00 ++ wsX40)
def wsX6_turnOfThing : List Cond := .code yX6_turnOfThing cX6_turnOfThing 2 (some .int) :: ([.fieldLink RX6 10 "JoinedLight" "bench" "LJoinedLight$Bench;", .fieldLink RX6 134 "JoinedLight$Bench" "kinds" "[I", .constant RX6 115 (-1000000004), .fieldLink RX6 266 "JoinedLight$Bench" "turns" "[I", .methodLink RX6 128 yX0_hasThing, .instanceMethod yX0_hasThing, .selects RX0 yX0_hasThing yX0_hasThing, .initialized RX0, .code yX0_hasThing cX0_hasThing 2 (some .boolean), .fieldLink RX0 37 "JoinedLight$Bench" "thingCount" "I"] ++ wsX60 ++ wsX00)
def wsX6_thing_r1 : List Cond := [Cond.constant RX6 94 (-1000000001), Cond.fieldLink RX6 10 "JoinedLight" "bench" "LJoinedLight$Bench;", Cond.constant RX6 115 (-1000000004), Cond.fieldLink RX6 22 "JoinedLight" "rays" "LJoinedLight$Rays;", Cond.fieldLink RX6 131 "JoinedLight$Bench" "places" "[I", Cond.fieldLink RX6 134 "JoinedLight$Bench" "kinds" "[I", Cond.fieldLink RX6 137 "JoinedLight$Bench" "firsts" "[I", Cond.fieldLink RX6 140 "JoinedLight$Bench" "seconds" "[I", Cond.methodLink RX6 90 yX6_within, Cond.static yX6_within, Cond.initialized RX6, Cond.code yX6_within cX6_within 3 (some .boolean), Cond.methodLink RX6 128 yX0_hasThing, Cond.instanceMethod yX0_hasThing, Cond.selects RX0 yX0_hasThing yX0_hasThing, Cond.initialized RX0, Cond.code yX0_hasThing cX0_hasThing 2 (some .boolean), Cond.fieldLink RX0 37 "JoinedLight$Bench" "thingCount" "I", Cond.methodLink RX6 95 yX4_follow, Cond.instanceMethod yX4_follow, Cond.selects RX4 yX4_follow yX4_follow, Cond.initialized RX4, Cond.code yX4_follow cX4_follow 3 none, Cond.fieldLink RX4 38 "JoinedLight$Bench" "lineCount" "I"]
def wsX6_thing_r2 : List Cond := [Cond.fieldLink RX4 24 "JoinedLight$Rays" "followed" "I", Cond.methodLink RX4 28 yX0_hasLine, Cond.instanceMethod yX0_hasLine, Cond.selects RX0 yX0_hasLine yX0_hasLine, Cond.code yX0_hasLine cX0_hasLine 2 (some .boolean), Cond.fieldLink RX0 18 "JoinedLight$Bench" "lineCount" "I", Cond.methodLink RX4 34 yX4_followLine, Cond.instanceMethod yX4_followLine, Cond.selects RX4 yX4_followLine yX4_followLine, Cond.code yX4_followLine cX4_followLine 10 none, Cond.fieldLink RX4 41 "JoinedLight$Bench" "colours" "[I", Cond.fieldLink RX4 47 "JoinedLight$Bench" "places" "[I", Cond.fieldLink RX4 9 "JoinedLight$Rays" "heights" "[I", Cond.fieldLink RX4 15 "JoinedLight$Rays" "slopes" "[I", Cond.methodLink RX4 44 yX0_hasThing, Cond.methodLink RX4 50 yX4_rise, Cond.static yX4_rise, Cond.code yX4_rise cX4_rise 2 (some .int), Cond.methodLink RX4 67 yJ9_floorDiv_7cf53, Cond.static yJ9_floorDiv_7cf53, Cond.initialized RJ9, Cond.code yJ9_floorDiv_7cf53 cJ9_floorDiv_7cf53 3 (some .int), Cond.methodLink RX4 54 yX0_whyLostAt, Cond.instanceMethod yX0_whyLostAt]
def wsX6_thing_r3 : List Cond := [Cond.selects RX0 yX0_whyLostAt yX0_whyLostAt, Cond.code yX0_whyLostAt cX0_whyLostAt 4 (some .int), Cond.fieldLink RX0 25 "JoinedLight$Bench" "kinds" "[I", Cond.fieldLink RX0 28 "JoinedLight$Bench" "firsts" "[I", Cond.fieldLink RX0 31 "JoinedLight$Bench" "seconds" "[I", Cond.methodLink RX0 90 yX0_isBeyond, Cond.static yX0_isBeyond, Cond.code yX0_isBeyond cX0_isBeyond 1 (some .boolean), Cond.methodLink RX0 49 yX0_hasThing, Cond.methodLink RX4 57 yX4_finish, Cond.instanceMethod yX4_finish, Cond.selects RX4 yX4_finish yX4_finish, Cond.code yX4_finish cX4_finish 4 none, Cond.fieldLink RX4 18 "JoinedLight$Rays" "lostAt" "[I", Cond.fieldLink RX4 21 "JoinedLight$Rays" "lostWhy" "[I", Cond.methodLink RX4 61 yX0_bendAt, Cond.instanceMethod yX0_bendAt, Cond.selects RX0 yX0_bendAt yX0_bendAt, Cond.code yX0_bendAt cX0_bendAt 4 (some .int), Cond.fieldLink RX0 34 "JoinedLight$Bench" "turns" "[I", Cond.static yX6_bendingOf, Cond.code yX6_bendingOf cX6_bendingOf 3 (some .int), Cond.methodLink RX6 258 yJ9_floorDiv_7cf53, Cond.methodLink RX0 53 yJ9_floorDiv_7cf53]
def wsX6_thing_r4 : List Cond := [Cond.methodLink RX4 64 yX0_isBeyond, Cond.methodLink RX6 143 yX6_turnOfThing, Cond.instanceMethod yX6_turnOfThing, Cond.selects RX6 yX6_turnOfThing yX6_turnOfThing, Cond.code yX6_turnOfThing cX6_turnOfThing 2 (some .int), Cond.fieldLink RX6 266 "JoinedLight$Bench" "turns" "[I", Cond.methodLink RX6 146 yX4_linesAt, Cond.instanceMethod yX4_linesAt, Cond.selects RX4 yX4_linesAt yX4_linesAt, Cond.code yX4_linesAt cX4_linesAt 7 (some .int), Cond.methodLink RX4 75 yX4_comes, Cond.instanceMethod yX4_comes, Cond.selects RX4 yX4_comes yX4_comes, Cond.code yX4_comes cX4_comes 2 (some .boolean), Cond.methodLink RX6 150 yX4_lightLostAt, Cond.instanceMethod yX4_lightLostAt, Cond.selects RX4 yX4_lightLostAt yX4_lightLostAt, Cond.code yX4_lightLostAt cX4_lightLostAt 5 (some .int), Cond.fieldLink RX4 78 "JoinedLight$Bench" "lights" "[I"]
def wsX6_thing : List Cond := .code yX6_thing cX6_thing 3 (some .int) :: ((wsX6_thing_r1 ++ (wsX6_thing_r2 ++ (wsX6_thing_r3 ++ wsX6_thing_r4))) ++ wsX60 ++ wsX00 ++ wsX40)
def wsX6_heightAt_r1 : List Cond := [Cond.fieldLink RX6 22 "JoinedLight" "rays" "LJoinedLight$Rays;", Cond.fieldLink RX6 10 "JoinedLight" "bench" "LJoinedLight$Bench;", Cond.fieldLink RX6 112 "JoinedLight$Rays" "heights" "[I", Cond.constant RX6 115 (-1000000004), Cond.methodLink RX6 269 yX4_followLine, Cond.instanceMethod yX4_followLine, Cond.selects RX4 yX4_followLine yX4_followLine, Cond.initialized RX4, Cond.code yX4_followLine cX4_followLine 10 none, Cond.fieldLink RX4 41 "JoinedLight$Bench" "colours" "[I", Cond.fieldLink RX4 47 "JoinedLight$Bench" "places" "[I", Cond.fieldLink RX4 9 "JoinedLight$Rays" "heights" "[I", Cond.fieldLink RX4 15 "JoinedLight$Rays" "slopes" "[I", Cond.methodLink RX4 28 yX0_hasLine, Cond.instanceMethod yX0_hasLine, Cond.selects RX0 yX0_hasLine yX0_hasLine, Cond.initialized RX0, Cond.code yX0_hasLine cX0_hasLine 2 (some .boolean), Cond.fieldLink RX0 18 "JoinedLight$Bench" "lineCount" "I", Cond.methodLink RX4 44 yX0_hasThing, Cond.instanceMethod yX0_hasThing, Cond.selects RX0 yX0_hasThing yX0_hasThing, Cond.code yX0_hasThing cX0_hasThing 2 (some .boolean), Cond.fieldLink RX0 37 "JoinedLight$Bench" "thingCount" "I"]
def wsX6_heightAt_r2 : List Cond := [Cond.methodLink RX4 50 yX4_rise, Cond.static yX4_rise, Cond.code yX4_rise cX4_rise 2 (some .int), Cond.methodLink RX4 67 yJ9_floorDiv_7cf53, Cond.static yJ9_floorDiv_7cf53, Cond.initialized RJ9, Cond.code yJ9_floorDiv_7cf53 cJ9_floorDiv_7cf53 3 (some .int), Cond.methodLink RX4 54 yX0_whyLostAt, Cond.instanceMethod yX0_whyLostAt, Cond.selects RX0 yX0_whyLostAt yX0_whyLostAt, Cond.code yX0_whyLostAt cX0_whyLostAt 4 (some .int), Cond.fieldLink RX0 25 "JoinedLight$Bench" "kinds" "[I", Cond.fieldLink RX0 28 "JoinedLight$Bench" "firsts" "[I", Cond.fieldLink RX0 31 "JoinedLight$Bench" "seconds" "[I", Cond.methodLink RX0 90 yX0_isBeyond, Cond.static yX0_isBeyond, Cond.code yX0_isBeyond cX0_isBeyond 1 (some .boolean), Cond.static yX6_within, Cond.initialized RX6, Cond.code yX6_within cX6_within 3 (some .boolean), Cond.methodLink RX0 49 yX0_hasThing, Cond.methodLink RX4 57 yX4_finish, Cond.instanceMethod yX4_finish, Cond.selects RX4 yX4_finish yX4_finish]
def wsX6_heightAt_r3 : List Cond := [Cond.code yX4_finish cX4_finish 4 none, Cond.fieldLink RX4 18 "JoinedLight$Rays" "lostAt" "[I", Cond.fieldLink RX4 21 "JoinedLight$Rays" "lostWhy" "[I", Cond.methodLink RX4 61 yX0_bendAt, Cond.instanceMethod yX0_bendAt, Cond.selects RX0 yX0_bendAt yX0_bendAt, Cond.code yX0_bendAt cX0_bendAt 4 (some .int), Cond.fieldLink RX0 34 "JoinedLight$Bench" "turns" "[I", Cond.static yX6_bendingOf, Cond.code yX6_bendingOf cX6_bendingOf 3 (some .int), Cond.methodLink RX6 258 yJ9_floorDiv_7cf53, Cond.methodLink RX0 53 yJ9_floorDiv_7cf53, Cond.methodLink RX4 64 yX0_isBeyond, Cond.methodLink RX6 98 yX4_comes, Cond.instanceMethod yX4_comes, Cond.selects RX4 yX4_comes yX4_comes, Cond.code yX4_comes cX4_comes 2 (some .boolean)]
def wsX6_heightAt : List Cond := .code yX6_heightAt cX6_heightAt 3 (some .int) :: ((wsX6_heightAt_r1 ++ (wsX6_heightAt_r2 ++ wsX6_heightAt_r3)) ++ wsX60 ++ wsX40 ++ wsX00)
def wsX6_height_r1 : List Cond := [Cond.fieldLink RX6 10 "JoinedLight" "bench" "LJoinedLight$Bench;", Cond.constant RX6 94 (-1000000001), Cond.methodLink RX6 86 yX0_hasLine, Cond.instanceMethod yX0_hasLine, Cond.selects RX0 yX0_hasLine yX0_hasLine, Cond.initialized RX0, Cond.code yX0_hasLine cX0_hasLine 2 (some .boolean), Cond.fieldLink RX0 18 "JoinedLight$Bench" "lineCount" "I", Cond.methodLink RX6 90 yX6_within, Cond.static yX6_within, Cond.initialized RX6, Cond.code yX6_within cX6_within 3 (some .boolean), Cond.methodLink RX6 153 yX6_heightAt, Cond.instanceMethod yX6_heightAt, Cond.selects RX6 yX6_heightAt yX6_heightAt, Cond.code yX6_heightAt cX6_heightAt 3 (some .int), Cond.fieldLink RX6 22 "JoinedLight" "rays" "LJoinedLight$Rays;", Cond.fieldLink RX6 112 "JoinedLight$Rays" "heights" "[I", Cond.constant RX6 115 (-1000000004), Cond.methodLink RX6 269 yX4_followLine, Cond.instanceMethod yX4_followLine, Cond.selects RX4 yX4_followLine yX4_followLine, Cond.initialized RX4, Cond.code yX4_followLine cX4_followLine 10 none]
def wsX6_height_r2 : List Cond := [Cond.fieldLink RX4 41 "JoinedLight$Bench" "colours" "[I", Cond.fieldLink RX4 47 "JoinedLight$Bench" "places" "[I", Cond.fieldLink RX4 9 "JoinedLight$Rays" "heights" "[I", Cond.fieldLink RX4 15 "JoinedLight$Rays" "slopes" "[I", Cond.methodLink RX4 28 yX0_hasLine, Cond.methodLink RX4 44 yX0_hasThing, Cond.instanceMethod yX0_hasThing, Cond.selects RX0 yX0_hasThing yX0_hasThing, Cond.code yX0_hasThing cX0_hasThing 2 (some .boolean), Cond.fieldLink RX0 37 "JoinedLight$Bench" "thingCount" "I", Cond.methodLink RX4 50 yX4_rise, Cond.static yX4_rise, Cond.code yX4_rise cX4_rise 2 (some .int), Cond.methodLink RX4 67 yJ9_floorDiv_7cf53, Cond.static yJ9_floorDiv_7cf53, Cond.initialized RJ9, Cond.code yJ9_floorDiv_7cf53 cJ9_floorDiv_7cf53 3 (some .int), Cond.methodLink RX4 54 yX0_whyLostAt, Cond.instanceMethod yX0_whyLostAt, Cond.selects RX0 yX0_whyLostAt yX0_whyLostAt, Cond.code yX0_whyLostAt cX0_whyLostAt 4 (some .int), Cond.fieldLink RX0 25 "JoinedLight$Bench" "kinds" "[I", Cond.fieldLink RX0 28 "JoinedLight$Bench" "firsts" "[I", Cond.fieldLink RX0 31 "JoinedLight$Bench" "seconds" "[I"]
def wsX6_height_r3 : List Cond := [Cond.methodLink RX0 90 yX0_isBeyond, Cond.static yX0_isBeyond, Cond.code yX0_isBeyond cX0_isBeyond 1 (some .boolean), Cond.methodLink RX0 49 yX0_hasThing, Cond.methodLink RX4 57 yX4_finish, Cond.instanceMethod yX4_finish, Cond.selects RX4 yX4_finish yX4_finish, Cond.code yX4_finish cX4_finish 4 none, Cond.fieldLink RX4 18 "JoinedLight$Rays" "lostAt" "[I", Cond.fieldLink RX4 21 "JoinedLight$Rays" "lostWhy" "[I", Cond.methodLink RX4 61 yX0_bendAt, Cond.instanceMethod yX0_bendAt, Cond.selects RX0 yX0_bendAt yX0_bendAt, Cond.code yX0_bendAt cX0_bendAt 4 (some .int), Cond.fieldLink RX0 34 "JoinedLight$Bench" "turns" "[I", Cond.static yX6_bendingOf, Cond.code yX6_bendingOf cX6_bendingOf 3 (some .int), Cond.methodLink RX6 258 yJ9_floorDiv_7cf53, Cond.methodLink RX0 53 yJ9_floorDiv_7cf53, Cond.methodLink RX4 64 yX0_isBeyond, Cond.methodLink RX6 98 yX4_comes, Cond.instanceMethod yX4_comes, Cond.selects RX4 yX4_comes yX4_comes, Cond.code yX4_comes cX4_comes 2 (some .boolean)]
def wsX6_height : List Cond := .code yX6_height cX6_height 3 (some .int) :: ((wsX6_height_r1 ++ (wsX6_height_r2 ++ wsX6_height_r3)) ++ wsX60 ++ wsX00 ++ wsX40)
def wsX6_light_r1 : List Cond := [Cond.constant RX6 94 (-1000000001), Cond.fieldLink RX6 22 "JoinedLight" "rays" "LJoinedLight$Rays;", Cond.fieldLink RX6 10 "JoinedLight" "bench" "LJoinedLight$Bench;", Cond.fieldLink RX6 29 "JoinedLight" "cells" "LJoinedLight$Cells;", Cond.methodLink RX6 90 yX6_within, Cond.static yX6_within, Cond.initialized RX6, Cond.code yX6_within cX6_within 3 (some .boolean), Cond.methodLink RX6 95 yX4_follow, Cond.instanceMethod yX4_follow, Cond.selects RX4 yX4_follow yX4_follow, Cond.initialized RX4, Cond.code yX4_follow cX4_follow 3 none, Cond.fieldLink RX4 38 "JoinedLight$Bench" "lineCount" "I", Cond.fieldLink RX4 24 "JoinedLight$Rays" "followed" "I", Cond.methodLink RX4 28 yX0_hasLine, Cond.instanceMethod yX0_hasLine, Cond.selects RX0 yX0_hasLine yX0_hasLine, Cond.initialized RX0, Cond.code yX0_hasLine cX0_hasLine 2 (some .boolean), Cond.fieldLink RX0 18 "JoinedLight$Bench" "lineCount" "I", Cond.methodLink RX4 34 yX4_followLine, Cond.instanceMethod yX4_followLine, Cond.selects RX4 yX4_followLine yX4_followLine]
def wsX6_light_r2 : List Cond := [Cond.code yX4_followLine cX4_followLine 10 none, Cond.fieldLink RX4 41 "JoinedLight$Bench" "colours" "[I", Cond.fieldLink RX4 47 "JoinedLight$Bench" "places" "[I", Cond.fieldLink RX4 9 "JoinedLight$Rays" "heights" "[I", Cond.fieldLink RX4 15 "JoinedLight$Rays" "slopes" "[I", Cond.methodLink RX4 44 yX0_hasThing, Cond.instanceMethod yX0_hasThing, Cond.selects RX0 yX0_hasThing yX0_hasThing, Cond.code yX0_hasThing cX0_hasThing 2 (some .boolean), Cond.fieldLink RX0 37 "JoinedLight$Bench" "thingCount" "I", Cond.methodLink RX4 50 yX4_rise, Cond.static yX4_rise, Cond.code yX4_rise cX4_rise 2 (some .int), Cond.methodLink RX4 67 yJ9_floorDiv_7cf53, Cond.static yJ9_floorDiv_7cf53, Cond.initialized RJ9, Cond.code yJ9_floorDiv_7cf53 cJ9_floorDiv_7cf53 3 (some .int), Cond.methodLink RX4 54 yX0_whyLostAt, Cond.instanceMethod yX0_whyLostAt, Cond.selects RX0 yX0_whyLostAt yX0_whyLostAt, Cond.code yX0_whyLostAt cX0_whyLostAt 4 (some .int), Cond.fieldLink RX0 25 "JoinedLight$Bench" "kinds" "[I", Cond.fieldLink RX0 28 "JoinedLight$Bench" "firsts" "[I", Cond.fieldLink RX0 31 "JoinedLight$Bench" "seconds" "[I"]
def wsX6_light_r3 : List Cond := [Cond.methodLink RX0 90 yX0_isBeyond, Cond.static yX0_isBeyond, Cond.code yX0_isBeyond cX0_isBeyond 1 (some .boolean), Cond.methodLink RX0 49 yX0_hasThing, Cond.methodLink RX4 57 yX4_finish, Cond.instanceMethod yX4_finish, Cond.selects RX4 yX4_finish yX4_finish, Cond.code yX4_finish cX4_finish 4 none, Cond.fieldLink RX4 18 "JoinedLight$Rays" "lostAt" "[I", Cond.fieldLink RX4 21 "JoinedLight$Rays" "lostWhy" "[I", Cond.methodLink RX4 61 yX0_bendAt, Cond.instanceMethod yX0_bendAt, Cond.selects RX0 yX0_bendAt yX0_bendAt, Cond.code yX0_bendAt cX0_bendAt 4 (some .int), Cond.fieldLink RX0 34 "JoinedLight$Bench" "turns" "[I", Cond.static yX6_bendingOf, Cond.code yX6_bendingOf cX6_bendingOf 3 (some .int), Cond.methodLink RX6 258 yJ9_floorDiv_7cf53, Cond.methodLink RX0 53 yJ9_floorDiv_7cf53, Cond.methodLink RX4 64 yX0_isBeyond, Cond.methodLink RX6 156 yX1_gather, Cond.instanceMethod yX1_gather, Cond.selects RX1 yX1_gather yX1_gather, Cond.initialized RX1]
def wsX6_light_r4 : List Cond := [Cond.code yX1_gather cX1_gather 4 none, Cond.fieldLink RX1 21 "JoinedLight$Cells" "used" "I", Cond.fieldLink RX1 36 "JoinedLight$Rays" "heights" "[I", Cond.fieldLink RX1 43 "JoinedLight$Bench" "lights" "[I", Cond.methodLink RX1 25 yX0_hasLine, Cond.methodLink RX1 31 yX4_comes, Cond.instanceMethod yX4_comes, Cond.selects RX4 yX4_comes yX4_comes, Cond.code yX4_comes cX4_comes 2 (some .boolean), Cond.methodLink RX1 39 yX0_cellOf, Cond.instanceMethod yX0_cellOf, Cond.selects RX0 yX0_cellOf yX0_cellOf, Cond.code yX0_cellOf cX0_cellOf 2 (some .int), Cond.fieldLink RX0 40 "JoinedLight$Bench" "cellWidth" "I", Cond.methodLink RX1 44 yX1_addTo, Cond.instanceMethod yX1_addTo, Cond.selects RX1 yX1_addTo yX1_addTo, Cond.code yX1_addTo cX1_addTo 5 none, Cond.fieldLink RX1 9 "JoinedLight$Cells" "numbers" "[I", Cond.fieldLink RX1 15 "JoinedLight$Cells" "lights" "[I", Cond.fieldLink RX1 18 "JoinedLight$Cells" "lines" "[I", Cond.methodLink RX1 48 yX1_slotOf, Cond.instanceMethod yX1_slotOf, Cond.selects RX1 yX1_slotOf yX1_slotOf]
def wsX6_light_r5 : List Cond := [Cond.code yX1_slotOf cX1_slotOf 3 (some .int), Cond.methodLink RX1 51 yX1_hasSlot, Cond.instanceMethod yX1_hasSlot, Cond.selects RX1 yX1_hasSlot yX1_hasSlot, Cond.code yX1_hasSlot cX1_hasSlot 2 (some .boolean), Cond.methodLink RX6 160 yX1_lightOf, Cond.instanceMethod yX1_lightOf, Cond.selects RX1 yX1_lightOf yX1_lightOf, Cond.code yX1_lightOf cX1_lightOf 3 (some .int)]
def wsX6_light : List Cond := .code yX6_light cX6_light 2 (some .int) :: ((wsX6_light_r1 ++ (wsX6_light_r2 ++ (wsX6_light_r3 ++ (wsX6_light_r4 ++ wsX6_light_r5)))) ++ wsX60 ++ wsX00 ++ wsX40 ++ wsX10)
def wsX6_bright_r1 : List Cond := [Cond.constant RX6 94 (-1000000001), Cond.fieldLink RX6 22 "JoinedLight" "rays" "LJoinedLight$Rays;", Cond.fieldLink RX6 10 "JoinedLight" "bench" "LJoinedLight$Bench;", Cond.fieldLink RX6 29 "JoinedLight" "cells" "LJoinedLight$Cells;", Cond.constant RX6 115 (-1000000004), Cond.fieldLink RX6 169 "JoinedLight$Cells" "numbers" "[I", Cond.fieldLink RX6 172 "JoinedLight$Cells" "lights" "[I", Cond.fieldLink RX6 173 "JoinedLight$Cells" "lines" "[I", Cond.methodLink RX6 90 yX6_within, Cond.static yX6_within, Cond.initialized RX6, Cond.code yX6_within cX6_within 3 (some .boolean), Cond.methodLink RX6 95 yX4_follow, Cond.instanceMethod yX4_follow, Cond.selects RX4 yX4_follow yX4_follow, Cond.initialized RX4, Cond.code yX4_follow cX4_follow 3 none, Cond.fieldLink RX4 38 "JoinedLight$Bench" "lineCount" "I", Cond.fieldLink RX4 24 "JoinedLight$Rays" "followed" "I", Cond.methodLink RX4 28 yX0_hasLine, Cond.instanceMethod yX0_hasLine, Cond.selects RX0 yX0_hasLine yX0_hasLine, Cond.initialized RX0, Cond.code yX0_hasLine cX0_hasLine 2 (some .boolean)]
def wsX6_bright_r2 : List Cond := [Cond.fieldLink RX0 18 "JoinedLight$Bench" "lineCount" "I", Cond.methodLink RX4 34 yX4_followLine, Cond.instanceMethod yX4_followLine, Cond.selects RX4 yX4_followLine yX4_followLine, Cond.code yX4_followLine cX4_followLine 10 none, Cond.fieldLink RX4 41 "JoinedLight$Bench" "colours" "[I", Cond.fieldLink RX4 47 "JoinedLight$Bench" "places" "[I", Cond.fieldLink RX4 9 "JoinedLight$Rays" "heights" "[I", Cond.fieldLink RX4 15 "JoinedLight$Rays" "slopes" "[I", Cond.methodLink RX4 44 yX0_hasThing, Cond.instanceMethod yX0_hasThing, Cond.selects RX0 yX0_hasThing yX0_hasThing, Cond.code yX0_hasThing cX0_hasThing 2 (some .boolean), Cond.fieldLink RX0 37 "JoinedLight$Bench" "thingCount" "I", Cond.methodLink RX4 50 yX4_rise, Cond.static yX4_rise, Cond.code yX4_rise cX4_rise 2 (some .int), Cond.methodLink RX4 67 yJ9_floorDiv_7cf53, Cond.static yJ9_floorDiv_7cf53, Cond.initialized RJ9, Cond.code yJ9_floorDiv_7cf53 cJ9_floorDiv_7cf53 3 (some .int), Cond.methodLink RX4 54 yX0_whyLostAt, Cond.instanceMethod yX0_whyLostAt, Cond.selects RX0 yX0_whyLostAt yX0_whyLostAt]
def wsX6_bright_r3 : List Cond := [Cond.code yX0_whyLostAt cX0_whyLostAt 4 (some .int), Cond.fieldLink RX0 25 "JoinedLight$Bench" "kinds" "[I", Cond.fieldLink RX0 28 "JoinedLight$Bench" "firsts" "[I", Cond.fieldLink RX0 31 "JoinedLight$Bench" "seconds" "[I", Cond.methodLink RX0 90 yX0_isBeyond, Cond.static yX0_isBeyond, Cond.code yX0_isBeyond cX0_isBeyond 1 (some .boolean), Cond.methodLink RX0 49 yX0_hasThing, Cond.methodLink RX4 57 yX4_finish, Cond.instanceMethod yX4_finish, Cond.selects RX4 yX4_finish yX4_finish, Cond.code yX4_finish cX4_finish 4 none, Cond.fieldLink RX4 18 "JoinedLight$Rays" "lostAt" "[I", Cond.fieldLink RX4 21 "JoinedLight$Rays" "lostWhy" "[I", Cond.methodLink RX4 61 yX0_bendAt, Cond.instanceMethod yX0_bendAt, Cond.selects RX0 yX0_bendAt yX0_bendAt, Cond.code yX0_bendAt cX0_bendAt 4 (some .int), Cond.fieldLink RX0 34 "JoinedLight$Bench" "turns" "[I", Cond.static yX6_bendingOf, Cond.code yX6_bendingOf cX6_bendingOf 3 (some .int), Cond.methodLink RX6 258 yJ9_floorDiv_7cf53, Cond.methodLink RX0 53 yJ9_floorDiv_7cf53, Cond.methodLink RX4 64 yX0_isBeyond]
def wsX6_bright_r4 : List Cond := [Cond.methodLink RX6 156 yX1_gather, Cond.instanceMethod yX1_gather, Cond.selects RX1 yX1_gather yX1_gather, Cond.initialized RX1, Cond.code yX1_gather cX1_gather 4 none, Cond.fieldLink RX1 21 "JoinedLight$Cells" "used" "I", Cond.fieldLink RX1 36 "JoinedLight$Rays" "heights" "[I", Cond.fieldLink RX1 43 "JoinedLight$Bench" "lights" "[I", Cond.methodLink RX1 25 yX0_hasLine, Cond.methodLink RX1 31 yX4_comes, Cond.instanceMethod yX4_comes, Cond.selects RX4 yX4_comes yX4_comes, Cond.code yX4_comes cX4_comes 2 (some .boolean), Cond.methodLink RX1 39 yX0_cellOf, Cond.instanceMethod yX0_cellOf, Cond.selects RX0 yX0_cellOf yX0_cellOf, Cond.code yX0_cellOf cX0_cellOf 2 (some .int), Cond.fieldLink RX0 40 "JoinedLight$Bench" "cellWidth" "I", Cond.methodLink RX1 44 yX1_addTo, Cond.instanceMethod yX1_addTo, Cond.selects RX1 yX1_addTo yX1_addTo, Cond.code yX1_addTo cX1_addTo 5 none, Cond.fieldLink RX1 9 "JoinedLight$Cells" "numbers" "[I", Cond.fieldLink RX1 15 "JoinedLight$Cells" "lights" "[I"]
def wsX6_bright_r5 : List Cond := [Cond.fieldLink RX1 18 "JoinedLight$Cells" "lines" "[I", Cond.methodLink RX1 48 yX1_slotOf, Cond.instanceMethod yX1_slotOf, Cond.selects RX1 yX1_slotOf yX1_slotOf, Cond.code yX1_slotOf cX1_slotOf 3 (some .int), Cond.methodLink RX1 51 yX1_hasSlot, Cond.instanceMethod yX1_hasSlot, Cond.selects RX1 yX1_hasSlot yX1_hasSlot, Cond.code yX1_hasSlot cX1_hasSlot 2 (some .boolean), Cond.methodLink RX6 163 yX1_slotOfRank, Cond.instanceMethod yX1_slotOfRank, Cond.selects RX1 yX1_slotOfRank yX1_slotOfRank, Cond.code yX1_slotOfRank cX1_slotOfRank 3 (some .int), Cond.methodLink RX1 54 yX1_rankOf, Cond.instanceMethod yX1_rankOf, Cond.selects RX1 yX1_rankOf yX1_rankOf, Cond.code yX1_rankOf cX1_rankOf 6 (some .int), Cond.methodLink RX6 166 yX1_hasSlot]
def wsX6_bright : List Cond := .code yX6_bright cX6_bright 4 (some .int) :: ((wsX6_bright_r1 ++ (wsX6_bright_r2 ++ (wsX6_bright_r3 ++ (wsX6_bright_r4 ++ wsX6_bright_r5)))) ++ wsX60 ++ wsX10 ++ wsX00 ++ wsX40)
def wsX6_bending : List Cond := .code yX6_bending cX6_bending 3 (some .int) :: ([.constant RX6 94 (-1000000001), .methodLink RX6 90 yX6_within, .static yX6_within, .initialized RX6, .code yX6_within cX6_within 3 (some .boolean), .methodLink RX6 176 yX6_bendingOf, .static yX6_bendingOf, .code yX6_bendingOf cX6_bendingOf 3 (some .int), .methodLink RX6 258 yJ9_floorDiv_7cf53, .static yJ9_floorDiv_7cf53, .initialized RJ9, .code yJ9_floorDiv_7cf53 cJ9_floorDiv_7cf53 3 (some .int)])
def wsJ6_bitCount_0f7a4 : List Cond := .code yJ6_bitCount_0f7a4 cJ6_bitCount_0f7a4 1 (some .int) :: ([.constant RJ6 265 (1431655765), .constant RJ6 266 (858993459), .constant RJ6 267 (252645135)])
def wsX6_offerTrial_r1 : List Cond := [Cond.fieldLink RX6 22 "JoinedLight" "rays" "LJoinedLight$Rays;", Cond.fieldLink RX6 16 "JoinedLight" "trial" "LJoinedLight$Bench;", Cond.fieldLink RX6 36 "JoinedLight" "choice" "LJoinedLight$Choice;", Cond.methodLink RX6 95 yX4_follow, Cond.instanceMethod yX4_follow, Cond.selects RX4 yX4_follow yX4_follow, Cond.initialized RX4, Cond.code yX4_follow cX4_follow 3 none, Cond.fieldLink RX4 38 "JoinedLight$Bench" "lineCount" "I", Cond.fieldLink RX4 24 "JoinedLight$Rays" "followed" "I", Cond.methodLink RX4 28 yX0_hasLine, Cond.instanceMethod yX0_hasLine, Cond.selects RX0 yX0_hasLine yX0_hasLine, Cond.initialized RX0, Cond.code yX0_hasLine cX0_hasLine 2 (some .boolean), Cond.fieldLink RX0 18 "JoinedLight$Bench" "lineCount" "I", Cond.methodLink RX4 34 yX4_followLine, Cond.instanceMethod yX4_followLine, Cond.selects RX4 yX4_followLine yX4_followLine, Cond.code yX4_followLine cX4_followLine 10 none, Cond.fieldLink RX4 41 "JoinedLight$Bench" "colours" "[I", Cond.fieldLink RX4 47 "JoinedLight$Bench" "places" "[I", Cond.fieldLink RX4 9 "JoinedLight$Rays" "heights" "[I", Cond.fieldLink RX4 15 "JoinedLight$Rays" "slopes" "[I"]
def wsX6_offerTrial_r2 : List Cond := [Cond.methodLink RX4 44 yX0_hasThing, Cond.instanceMethod yX0_hasThing, Cond.selects RX0 yX0_hasThing yX0_hasThing, Cond.code yX0_hasThing cX0_hasThing 2 (some .boolean), Cond.fieldLink RX0 37 "JoinedLight$Bench" "thingCount" "I", Cond.methodLink RX4 50 yX4_rise, Cond.static yX4_rise, Cond.code yX4_rise cX4_rise 2 (some .int), Cond.methodLink RX4 67 yJ9_floorDiv_7cf53, Cond.static yJ9_floorDiv_7cf53, Cond.initialized RJ9, Cond.code yJ9_floorDiv_7cf53 cJ9_floorDiv_7cf53 3 (some .int), Cond.methodLink RX4 54 yX0_whyLostAt, Cond.instanceMethod yX0_whyLostAt, Cond.selects RX0 yX0_whyLostAt yX0_whyLostAt, Cond.code yX0_whyLostAt cX0_whyLostAt 4 (some .int), Cond.fieldLink RX0 25 "JoinedLight$Bench" "kinds" "[I", Cond.fieldLink RX0 28 "JoinedLight$Bench" "firsts" "[I", Cond.fieldLink RX0 31 "JoinedLight$Bench" "seconds" "[I", Cond.methodLink RX0 90 yX0_isBeyond, Cond.static yX0_isBeyond, Cond.code yX0_isBeyond cX0_isBeyond 1 (some .boolean), Cond.static yX6_within, Cond.initialized RX6]
def wsX6_offerTrial_r3 : List Cond := [Cond.code yX6_within cX6_within 3 (some .boolean), Cond.methodLink RX0 49 yX0_hasThing, Cond.methodLink RX4 57 yX4_finish, Cond.instanceMethod yX4_finish, Cond.selects RX4 yX4_finish yX4_finish, Cond.code yX4_finish cX4_finish 4 none, Cond.fieldLink RX4 18 "JoinedLight$Rays" "lostAt" "[I", Cond.fieldLink RX4 21 "JoinedLight$Rays" "lostWhy" "[I", Cond.methodLink RX4 61 yX0_bendAt, Cond.instanceMethod yX0_bendAt, Cond.selects RX0 yX0_bendAt yX0_bendAt, Cond.code yX0_bendAt cX0_bendAt 4 (some .int), Cond.fieldLink RX0 34 "JoinedLight$Bench" "turns" "[I", Cond.static yX6_bendingOf, Cond.code yX6_bendingOf cX6_bendingOf 3 (some .int), Cond.methodLink RX6 258 yJ9_floorDiv_7cf53, Cond.methodLink RX0 53 yJ9_floorDiv_7cf53, Cond.methodLink RX4 64 yX0_isBeyond, Cond.methodLink RX6 273 yX4_linesOnScreen, Cond.instanceMethod yX4_linesOnScreen, Cond.selects RX4 yX4_linesOnScreen yX4_linesOnScreen, Cond.code yX4_linesOnScreen cX4_linesOnScreen 3 (some .int), Cond.methodLink RX4 72 yX4_has, Cond.instanceMethod yX4_has]
def wsX6_offerTrial_r4 : List Cond := [Cond.selects RX4 yX4_has yX4_has, Cond.code yX4_has cX4_has 2 (some .boolean), Cond.methodLink RX4 75 yX4_comes, Cond.instanceMethod yX4_comes, Cond.selects RX4 yX4_comes yX4_comes, Cond.code yX4_comes cX4_comes 2 (some .boolean), Cond.methodLink RX6 276 yJ6_bitCount_0f7a4, Cond.static yJ6_bitCount_0f7a4, Cond.initialized RJ6, Cond.code yJ6_bitCount_0f7a4 cJ6_bitCount_0f7a4 1 (some .int), Cond.constant RJ6 265 (1431655765), Cond.constant RJ6 266 (858993459), Cond.constant RJ6 267 (252645135), Cond.methodLink RX6 281 yX4_spread, Cond.instanceMethod yX4_spread, Cond.selects RX4 yX4_spread yX4_spread, Cond.code yX4_spread cX4_spread 4 (some .int), Cond.methodLink RX4 81 Lib.Math.min.name, Cond.static Lib.Math.min.name, Cond.initialized "java/lang/Math", Cond.code Lib.Math.min.name Lib.Math.min.code 2 (some .int), Cond.methodLink RX4 84 Lib.Math.max.name, Cond.static Lib.Math.max.name, Cond.code Lib.Math.max.name Lib.Math.max.code 2 (some .int)]
def wsX6_offerTrial_r5 : List Cond := [Cond.methodLink RX6 283 yX2_offer, Cond.instanceMethod yX2_offer, Cond.selects RX2 yX2_offer yX2_offer, Cond.initialized RX2, Cond.code yX2_offer cX2_offer 4 none, Cond.fieldLink RX2 13 "JoinedLight$Choice" "arrivals" "I", Cond.fieldLink RX2 16 "JoinedLight$Choice" "spread" "I", Cond.fieldLink RX2 7 "JoinedLight$Choice" "value" "I"]
def wsX6_offerTrial : List Cond := .code yX6_offerTrial cX6_offerTrial 2 none :: ((wsX6_offerTrial_r1 ++ (wsX6_offerTrial_r2 ++ (wsX6_offerTrial_r3 ++ (wsX6_offerTrial_r4 ++ wsX6_offerTrial_r5)))) ++ wsX60 ++ wsX00 ++ wsX40 ++ wsX20)
def wsX6_offerPlace_r1 : List Cond := [Cond.fieldLink RX6 16 "JoinedLight" "trial" "LJoinedLight$Bench;", Cond.fieldLink RX6 10 "JoinedLight" "bench" "LJoinedLight$Bench;", Cond.methodLink RX6 54 yX0_copyFrom, Cond.instanceMethod yX0_copyFrom, Cond.selects RX0 yX0_copyFrom yX0_copyFrom, Cond.initialized RX0, Cond.code yX0_copyFrom cX0_copyFrom 2 none, Cond.fieldLink RX0 9 "JoinedLight$Bench" "colours" "[I", Cond.methodLink RX0 43 arraycopyName, Cond.native arraycopyName, Cond.static arraycopyName, Cond.initialized "java/lang/System", Cond.fieldLink RX0 15 "JoinedLight$Bench" "lights" "[I", Cond.fieldLink RX0 18 "JoinedLight$Bench" "lineCount" "I", Cond.fieldLink RX0 22 "JoinedLight$Bench" "places" "[I", Cond.fieldLink RX0 25 "JoinedLight$Bench" "kinds" "[I", Cond.fieldLink RX0 28 "JoinedLight$Bench" "firsts" "[I", Cond.fieldLink RX0 31 "JoinedLight$Bench" "seconds" "[I", Cond.fieldLink RX0 34 "JoinedLight$Bench" "turns" "[I", Cond.fieldLink RX0 37 "JoinedLight$Bench" "thingCount" "I", Cond.fieldLink RX0 40 "JoinedLight$Bench" "cellWidth" "I", Cond.methodLink RX6 80 yX0_moveThing, Cond.instanceMethod yX0_moveThing, Cond.selects RX0 yX0_moveThing yX0_moveThing]
def wsX6_offerPlace_r2 : List Cond := [Cond.code yX0_moveThing cX0_moveThing 8 (some .int), Cond.constant RX0 66 (-1000000001), Cond.constant RX0 76 (-1000000002), Cond.methodLink RX0 72 yX0_indexOf, Cond.instanceMethod yX0_indexOf, Cond.selects RX0 yX0_indexOf yX0_indexOf, Cond.code yX0_indexOf cX0_indexOf 3 (some .int), Cond.methodLink RX0 49 yX0_hasThing, Cond.instanceMethod yX0_hasThing, Cond.selects RX0 yX0_hasThing yX0_hasThing, Cond.code yX0_hasThing cX0_hasThing 2 (some .boolean), Cond.static yX6_within, Cond.initialized RX6, Cond.code yX6_within cX6_within 3 (some .boolean), Cond.methodLink RX0 84 yX0_removeThing, Cond.instanceMethod yX0_removeThing, Cond.selects RX0 yX0_removeThing yX0_removeThing, Cond.code yX0_removeThing cX0_removeThing 4 (some .int), Cond.methodLink RX0 80 yX0_copyThing, Cond.instanceMethod yX0_copyThing, Cond.selects RX0 yX0_copyThing yX0_copyThing, Cond.code yX0_copyThing cX0_copyThing 3 none, Cond.methodLink RX0 68 yX0_addThing, Cond.instanceMethod yX0_addThing]
def wsX6_offerPlace_r3 : List Cond := [Cond.selects RX0 yX0_addThing yX0_addThing, Cond.code yX0_addThing cX0_addThing 8 (some .int), Cond.constant RX0 67 (-1000000003), Cond.methodLink RX0 77 yX0_thingsAhead, Cond.instanceMethod yX0_thingsAhead, Cond.selects RX0 yX0_thingsAhead yX0_thingsAhead, Cond.code yX0_thingsAhead cX0_thingsAhead 3 (some .int), Cond.methodLink RX6 200 yX6_offerTrial, Cond.instanceMethod yX6_offerTrial, Cond.selects RX6 yX6_offerTrial yX6_offerTrial, Cond.code yX6_offerTrial cX6_offerTrial 2 none, Cond.fieldLink RX6 22 "JoinedLight" "rays" "LJoinedLight$Rays;", Cond.fieldLink RX6 36 "JoinedLight" "choice" "LJoinedLight$Choice;", Cond.methodLink RX6 95 yX4_follow, Cond.instanceMethod yX4_follow, Cond.selects RX4 yX4_follow yX4_follow, Cond.initialized RX4, Cond.code yX4_follow cX4_follow 3 none, Cond.fieldLink RX4 38 "JoinedLight$Bench" "lineCount" "I", Cond.fieldLink RX4 24 "JoinedLight$Rays" "followed" "I", Cond.methodLink RX4 28 yX0_hasLine, Cond.instanceMethod yX0_hasLine, Cond.selects RX0 yX0_hasLine yX0_hasLine, Cond.code yX0_hasLine cX0_hasLine 2 (some .boolean)]
def wsX6_offerPlace_r4 : List Cond := [Cond.methodLink RX4 34 yX4_followLine, Cond.instanceMethod yX4_followLine, Cond.selects RX4 yX4_followLine yX4_followLine, Cond.code yX4_followLine cX4_followLine 10 none, Cond.fieldLink RX4 41 "JoinedLight$Bench" "colours" "[I", Cond.fieldLink RX4 47 "JoinedLight$Bench" "places" "[I", Cond.fieldLink RX4 9 "JoinedLight$Rays" "heights" "[I", Cond.fieldLink RX4 15 "JoinedLight$Rays" "slopes" "[I", Cond.methodLink RX4 44 yX0_hasThing, Cond.methodLink RX4 50 yX4_rise, Cond.static yX4_rise, Cond.code yX4_rise cX4_rise 2 (some .int), Cond.methodLink RX4 67 yJ9_floorDiv_7cf53, Cond.static yJ9_floorDiv_7cf53, Cond.initialized RJ9, Cond.code yJ9_floorDiv_7cf53 cJ9_floorDiv_7cf53 3 (some .int), Cond.methodLink RX4 54 yX0_whyLostAt, Cond.instanceMethod yX0_whyLostAt, Cond.selects RX0 yX0_whyLostAt yX0_whyLostAt, Cond.code yX0_whyLostAt cX0_whyLostAt 4 (some .int), Cond.methodLink RX0 90 yX0_isBeyond, Cond.static yX0_isBeyond, Cond.code yX0_isBeyond cX0_isBeyond 1 (some .boolean), Cond.methodLink RX4 57 yX4_finish]
def wsX6_offerPlace_r5 : List Cond := [Cond.instanceMethod yX4_finish, Cond.selects RX4 yX4_finish yX4_finish, Cond.code yX4_finish cX4_finish 4 none, Cond.fieldLink RX4 18 "JoinedLight$Rays" "lostAt" "[I", Cond.fieldLink RX4 21 "JoinedLight$Rays" "lostWhy" "[I", Cond.methodLink RX4 61 yX0_bendAt, Cond.instanceMethod yX0_bendAt, Cond.selects RX0 yX0_bendAt yX0_bendAt, Cond.code yX0_bendAt cX0_bendAt 4 (some .int), Cond.static yX6_bendingOf, Cond.code yX6_bendingOf cX6_bendingOf 3 (some .int), Cond.methodLink RX6 258 yJ9_floorDiv_7cf53, Cond.methodLink RX0 53 yJ9_floorDiv_7cf53, Cond.methodLink RX4 64 yX0_isBeyond, Cond.methodLink RX6 273 yX4_linesOnScreen, Cond.instanceMethod yX4_linesOnScreen, Cond.selects RX4 yX4_linesOnScreen yX4_linesOnScreen, Cond.code yX4_linesOnScreen cX4_linesOnScreen 3 (some .int), Cond.methodLink RX4 72 yX4_has, Cond.instanceMethod yX4_has, Cond.selects RX4 yX4_has yX4_has, Cond.code yX4_has cX4_has 2 (some .boolean), Cond.methodLink RX4 75 yX4_comes, Cond.instanceMethod yX4_comes]
def wsX6_offerPlace_r6 : List Cond := [Cond.selects RX4 yX4_comes yX4_comes, Cond.code yX4_comes cX4_comes 2 (some .boolean), Cond.methodLink RX6 276 yJ6_bitCount_0f7a4, Cond.static yJ6_bitCount_0f7a4, Cond.initialized RJ6, Cond.code yJ6_bitCount_0f7a4 cJ6_bitCount_0f7a4 1 (some .int), Cond.constant RJ6 265 (1431655765), Cond.constant RJ6 266 (858993459), Cond.constant RJ6 267 (252645135), Cond.methodLink RX6 281 yX4_spread, Cond.instanceMethod yX4_spread, Cond.selects RX4 yX4_spread yX4_spread, Cond.code yX4_spread cX4_spread 4 (some .int), Cond.methodLink RX4 81 Lib.Math.min.name, Cond.static Lib.Math.min.name, Cond.initialized "java/lang/Math", Cond.code Lib.Math.min.name Lib.Math.min.code 2 (some .int), Cond.methodLink RX4 84 Lib.Math.max.name, Cond.static Lib.Math.max.name, Cond.code Lib.Math.max.name Lib.Math.max.code 2 (some .int), Cond.methodLink RX6 283 yX2_offer, Cond.instanceMethod yX2_offer, Cond.selects RX2 yX2_offer yX2_offer, Cond.initialized RX2]
def wsX6_offerPlace_r7 : List Cond := [Cond.code yX2_offer cX2_offer 4 none, Cond.fieldLink RX2 13 "JoinedLight$Choice" "arrivals" "I", Cond.fieldLink RX2 16 "JoinedLight$Choice" "spread" "I", Cond.fieldLink RX2 7 "JoinedLight$Choice" "value" "I"]
def wsX6_offerPlace : List Cond := .code yX6_offerPlace cX6_offerPlace 3 none :: ((wsX6_offerPlace_r1 ++ (wsX6_offerPlace_r2 ++ (wsX6_offerPlace_r3 ++ (wsX6_offerPlace_r4 ++ (wsX6_offerPlace_r5 ++ (wsX6_offerPlace_r6 ++ wsX6_offerPlace_r7)))))) ++ wsX60 ++ wsX00 ++ wsX40 ++ wsX20)
def wsX6_best_r1 : List Cond := [Cond.fieldLink RX6 10 "JoinedLight" "bench" "LJoinedLight$Bench;", Cond.constant RX6 94 (-1000000001), Cond.fieldLink RX6 36 "JoinedLight" "choice" "LJoinedLight$Choice;", Cond.fieldLink RX6 189 "JoinedLight$Choice" "value" "I", Cond.fieldLink RX6 193 "JoinedLight$Choice" "arrivals" "I", Cond.fieldLink RX6 196 "JoinedLight$Choice" "spread" "I", Cond.methodLink RX6 179 yX0_indexOf, Cond.instanceMethod yX0_indexOf, Cond.selects RX0 yX0_indexOf yX0_indexOf, Cond.initialized RX0, Cond.code yX0_indexOf cX0_indexOf 3 (some .int), Cond.fieldLink RX0 22 "JoinedLight$Bench" "places" "[I", Cond.methodLink RX0 49 yX0_hasThing, Cond.instanceMethod yX0_hasThing, Cond.selects RX0 yX0_hasThing yX0_hasThing, Cond.code yX0_hasThing cX0_hasThing 2 (some .boolean), Cond.fieldLink RX0 37 "JoinedLight$Bench" "thingCount" "I", Cond.methodLink RX6 90 yX6_within, Cond.static yX6_within, Cond.initialized RX6, Cond.code yX6_within cX6_within 3 (some .boolean), Cond.methodLink RX6 182 yX2_clear, Cond.instanceMethod yX2_clear, Cond.selects RX2 yX2_clear yX2_clear]
def wsX6_best_r2 : List Cond := [Cond.initialized RX2, Cond.code yX2_clear cX2_clear 1 none, Cond.fieldLink RX2 13 "JoinedLight$Choice" "arrivals" "I", Cond.methodLink RX6 185 yX6_offerPlace, Cond.instanceMethod yX6_offerPlace, Cond.selects RX6 yX6_offerPlace yX6_offerPlace, Cond.code yX6_offerPlace cX6_offerPlace 3 none, Cond.fieldLink RX6 16 "JoinedLight" "trial" "LJoinedLight$Bench;", Cond.methodLink RX6 54 yX0_copyFrom, Cond.instanceMethod yX0_copyFrom, Cond.selects RX0 yX0_copyFrom yX0_copyFrom, Cond.code yX0_copyFrom cX0_copyFrom 2 none, Cond.fieldLink RX0 9 "JoinedLight$Bench" "colours" "[I", Cond.methodLink RX0 43 arraycopyName, Cond.native arraycopyName, Cond.static arraycopyName, Cond.initialized "java/lang/System", Cond.fieldLink RX0 15 "JoinedLight$Bench" "lights" "[I", Cond.fieldLink RX0 18 "JoinedLight$Bench" "lineCount" "I", Cond.fieldLink RX0 25 "JoinedLight$Bench" "kinds" "[I", Cond.fieldLink RX0 28 "JoinedLight$Bench" "firsts" "[I", Cond.fieldLink RX0 31 "JoinedLight$Bench" "seconds" "[I", Cond.fieldLink RX0 34 "JoinedLight$Bench" "turns" "[I", Cond.fieldLink RX0 40 "JoinedLight$Bench" "cellWidth" "I"]
def wsX6_best_r3 : List Cond := [Cond.methodLink RX6 80 yX0_moveThing, Cond.instanceMethod yX0_moveThing, Cond.selects RX0 yX0_moveThing yX0_moveThing, Cond.code yX0_moveThing cX0_moveThing 8 (some .int), Cond.constant RX0 66 (-1000000001), Cond.constant RX0 76 (-1000000002), Cond.methodLink RX0 72 yX0_indexOf, Cond.methodLink RX0 84 yX0_removeThing, Cond.instanceMethod yX0_removeThing, Cond.selects RX0 yX0_removeThing yX0_removeThing, Cond.code yX0_removeThing cX0_removeThing 4 (some .int), Cond.methodLink RX0 80 yX0_copyThing, Cond.instanceMethod yX0_copyThing, Cond.selects RX0 yX0_copyThing yX0_copyThing, Cond.code yX0_copyThing cX0_copyThing 3 none, Cond.methodLink RX0 68 yX0_addThing, Cond.instanceMethod yX0_addThing, Cond.selects RX0 yX0_addThing yX0_addThing, Cond.code yX0_addThing cX0_addThing 8 (some .int), Cond.constant RX0 67 (-1000000003), Cond.methodLink RX0 77 yX0_thingsAhead, Cond.instanceMethod yX0_thingsAhead, Cond.selects RX0 yX0_thingsAhead yX0_thingsAhead, Cond.code yX0_thingsAhead cX0_thingsAhead 3 (some .int)]
def wsX6_best_r4 : List Cond := [Cond.methodLink RX6 200 yX6_offerTrial, Cond.instanceMethod yX6_offerTrial, Cond.selects RX6 yX6_offerTrial yX6_offerTrial, Cond.code yX6_offerTrial cX6_offerTrial 2 none, Cond.fieldLink RX6 22 "JoinedLight" "rays" "LJoinedLight$Rays;", Cond.methodLink RX6 95 yX4_follow, Cond.instanceMethod yX4_follow, Cond.selects RX4 yX4_follow yX4_follow, Cond.initialized RX4, Cond.code yX4_follow cX4_follow 3 none, Cond.fieldLink RX4 38 "JoinedLight$Bench" "lineCount" "I", Cond.fieldLink RX4 24 "JoinedLight$Rays" "followed" "I", Cond.methodLink RX4 28 yX0_hasLine, Cond.instanceMethod yX0_hasLine, Cond.selects RX0 yX0_hasLine yX0_hasLine, Cond.code yX0_hasLine cX0_hasLine 2 (some .boolean), Cond.methodLink RX4 34 yX4_followLine, Cond.instanceMethod yX4_followLine, Cond.selects RX4 yX4_followLine yX4_followLine, Cond.code yX4_followLine cX4_followLine 10 none, Cond.fieldLink RX4 41 "JoinedLight$Bench" "colours" "[I", Cond.fieldLink RX4 47 "JoinedLight$Bench" "places" "[I", Cond.fieldLink RX4 9 "JoinedLight$Rays" "heights" "[I", Cond.fieldLink RX4 15 "JoinedLight$Rays" "slopes" "[I"]
def wsX6_best_r5 : List Cond := [Cond.methodLink RX4 44 yX0_hasThing, Cond.methodLink RX4 50 yX4_rise, Cond.static yX4_rise, Cond.code yX4_rise cX4_rise 2 (some .int), Cond.methodLink RX4 67 yJ9_floorDiv_7cf53, Cond.static yJ9_floorDiv_7cf53, Cond.initialized RJ9, Cond.code yJ9_floorDiv_7cf53 cJ9_floorDiv_7cf53 3 (some .int), Cond.methodLink RX4 54 yX0_whyLostAt, Cond.instanceMethod yX0_whyLostAt, Cond.selects RX0 yX0_whyLostAt yX0_whyLostAt, Cond.code yX0_whyLostAt cX0_whyLostAt 4 (some .int), Cond.methodLink RX0 90 yX0_isBeyond, Cond.static yX0_isBeyond, Cond.code yX0_isBeyond cX0_isBeyond 1 (some .boolean), Cond.methodLink RX4 57 yX4_finish, Cond.instanceMethod yX4_finish, Cond.selects RX4 yX4_finish yX4_finish, Cond.code yX4_finish cX4_finish 4 none, Cond.fieldLink RX4 18 "JoinedLight$Rays" "lostAt" "[I", Cond.fieldLink RX4 21 "JoinedLight$Rays" "lostWhy" "[I", Cond.methodLink RX4 61 yX0_bendAt, Cond.instanceMethod yX0_bendAt, Cond.selects RX0 yX0_bendAt yX0_bendAt]
def wsX6_best_r6 : List Cond := [Cond.code yX0_bendAt cX0_bendAt 4 (some .int), Cond.static yX6_bendingOf, Cond.code yX6_bendingOf cX6_bendingOf 3 (some .int), Cond.methodLink RX6 258 yJ9_floorDiv_7cf53, Cond.methodLink RX0 53 yJ9_floorDiv_7cf53, Cond.methodLink RX4 64 yX0_isBeyond, Cond.methodLink RX6 273 yX4_linesOnScreen, Cond.instanceMethod yX4_linesOnScreen, Cond.selects RX4 yX4_linesOnScreen yX4_linesOnScreen, Cond.code yX4_linesOnScreen cX4_linesOnScreen 3 (some .int), Cond.methodLink RX4 72 yX4_has, Cond.instanceMethod yX4_has, Cond.selects RX4 yX4_has yX4_has, Cond.code yX4_has cX4_has 2 (some .boolean), Cond.methodLink RX4 75 yX4_comes, Cond.instanceMethod yX4_comes, Cond.selects RX4 yX4_comes yX4_comes, Cond.code yX4_comes cX4_comes 2 (some .boolean), Cond.methodLink RX6 276 yJ6_bitCount_0f7a4, Cond.static yJ6_bitCount_0f7a4, Cond.initialized RJ6, Cond.code yJ6_bitCount_0f7a4 cJ6_bitCount_0f7a4 1 (some .int), Cond.constant RJ6 265 (1431655765), Cond.constant RJ6 266 (858993459)]
def wsX6_best_r7 : List Cond := [Cond.constant RJ6 267 (252645135), Cond.methodLink RX6 281 yX4_spread, Cond.instanceMethod yX4_spread, Cond.selects RX4 yX4_spread yX4_spread, Cond.code yX4_spread cX4_spread 4 (some .int), Cond.methodLink RX4 81 Lib.Math.min.name, Cond.static Lib.Math.min.name, Cond.initialized "java/lang/Math", Cond.code Lib.Math.min.name Lib.Math.min.code 2 (some .int), Cond.methodLink RX4 84 Lib.Math.max.name, Cond.static Lib.Math.max.name, Cond.code Lib.Math.max.name Lib.Math.max.code 2 (some .int), Cond.methodLink RX6 283 yX2_offer, Cond.instanceMethod yX2_offer, Cond.selects RX2 yX2_offer yX2_offer, Cond.code yX2_offer cX2_offer 4 none, Cond.fieldLink RX2 16 "JoinedLight$Choice" "spread" "I", Cond.fieldLink RX2 7 "JoinedLight$Choice" "value" "I"]
def wsX6_best : List Cond := .code yX6_best cX6_best 4 (some .int) :: ((wsX6_best_r1 ++ (wsX6_best_r2 ++ (wsX6_best_r3 ++ (wsX6_best_r4 ++ (wsX6_best_r5 ++ (wsX6_best_r6 ++ wsX6_best_r7)))))) ++ wsX60 ++ wsX20 ++ wsX00 ++ wsX40)
def wsX6_alone_r1 : List Cond := [Cond.fieldLink RX6 10 "JoinedLight" "bench" "LJoinedLight$Bench;", Cond.constant RX6 94 (-1000000001), Cond.constant RX6 199 (-1000000002), Cond.constant RX6 115 (-1000000004), Cond.methodLink RX6 86 yX0_hasLine, Cond.instanceMethod yX0_hasLine, Cond.selects RX0 yX0_hasLine yX0_hasLine, Cond.initialized RX0, Cond.code yX0_hasLine cX0_hasLine 2 (some .boolean), Cond.fieldLink RX0 18 "JoinedLight$Bench" "lineCount" "I", Cond.methodLink RX6 90 yX6_within, Cond.static yX6_within, Cond.initialized RX6, Cond.code yX6_within cX6_within 3 (some .boolean), Cond.methodLink RX6 179 yX0_indexOf, Cond.instanceMethod yX0_indexOf, Cond.selects RX0 yX0_indexOf yX0_indexOf, Cond.code yX0_indexOf cX0_indexOf 3 (some .int), Cond.fieldLink RX0 22 "JoinedLight$Bench" "places" "[I", Cond.methodLink RX0 49 yX0_hasThing, Cond.instanceMethod yX0_hasThing, Cond.selects RX0 yX0_hasThing yX0_hasThing, Cond.code yX0_hasThing cX0_hasThing 2 (some .boolean), Cond.fieldLink RX0 37 "JoinedLight$Bench" "thingCount" "I"]
def wsX6_alone_r2 : List Cond := [Cond.methodLink RX6 153 yX6_heightAt, Cond.instanceMethod yX6_heightAt, Cond.selects RX6 yX6_heightAt yX6_heightAt, Cond.code yX6_heightAt cX6_heightAt 3 (some .int), Cond.fieldLink RX6 22 "JoinedLight" "rays" "LJoinedLight$Rays;", Cond.fieldLink RX6 112 "JoinedLight$Rays" "heights" "[I", Cond.methodLink RX6 269 yX4_followLine, Cond.instanceMethod yX4_followLine, Cond.selects RX4 yX4_followLine yX4_followLine, Cond.initialized RX4, Cond.code yX4_followLine cX4_followLine 10 none, Cond.fieldLink RX4 41 "JoinedLight$Bench" "colours" "[I", Cond.fieldLink RX4 47 "JoinedLight$Bench" "places" "[I", Cond.fieldLink RX4 9 "JoinedLight$Rays" "heights" "[I", Cond.fieldLink RX4 15 "JoinedLight$Rays" "slopes" "[I", Cond.methodLink RX4 28 yX0_hasLine, Cond.methodLink RX4 44 yX0_hasThing, Cond.methodLink RX4 50 yX4_rise, Cond.static yX4_rise, Cond.code yX4_rise cX4_rise 2 (some .int), Cond.methodLink RX4 67 yJ9_floorDiv_7cf53, Cond.static yJ9_floorDiv_7cf53, Cond.initialized RJ9, Cond.code yJ9_floorDiv_7cf53 cJ9_floorDiv_7cf53 3 (some .int)]
def wsX6_alone_r3 : List Cond := [Cond.methodLink RX4 54 yX0_whyLostAt, Cond.instanceMethod yX0_whyLostAt, Cond.selects RX0 yX0_whyLostAt yX0_whyLostAt, Cond.code yX0_whyLostAt cX0_whyLostAt 4 (some .int), Cond.fieldLink RX0 25 "JoinedLight$Bench" "kinds" "[I", Cond.fieldLink RX0 28 "JoinedLight$Bench" "firsts" "[I", Cond.fieldLink RX0 31 "JoinedLight$Bench" "seconds" "[I", Cond.methodLink RX0 90 yX0_isBeyond, Cond.static yX0_isBeyond, Cond.code yX0_isBeyond cX0_isBeyond 1 (some .boolean), Cond.methodLink RX4 57 yX4_finish, Cond.instanceMethod yX4_finish, Cond.selects RX4 yX4_finish yX4_finish, Cond.code yX4_finish cX4_finish 4 none, Cond.fieldLink RX4 18 "JoinedLight$Rays" "lostAt" "[I", Cond.fieldLink RX4 21 "JoinedLight$Rays" "lostWhy" "[I", Cond.methodLink RX4 61 yX0_bendAt, Cond.instanceMethod yX0_bendAt, Cond.selects RX0 yX0_bendAt yX0_bendAt, Cond.code yX0_bendAt cX0_bendAt 4 (some .int), Cond.fieldLink RX0 34 "JoinedLight$Bench" "turns" "[I", Cond.static yX6_bendingOf, Cond.code yX6_bendingOf cX6_bendingOf 3 (some .int), Cond.methodLink RX6 258 yJ9_floorDiv_7cf53]
def wsX6_alone_r4 : List Cond := [Cond.methodLink RX0 53 yJ9_floorDiv_7cf53, Cond.methodLink RX4 64 yX0_isBeyond, Cond.methodLink RX6 98 yX4_comes, Cond.instanceMethod yX4_comes, Cond.selects RX4 yX4_comes yX4_comes, Cond.code yX4_comes cX4_comes 2 (some .boolean)]
def wsX6_alone : List Cond := .code yX6_alone cX6_alone 5 (some .int) :: ((wsX6_alone_r1 ++ (wsX6_alone_r2 ++ (wsX6_alone_r3 ++ wsX6_alone_r4))) ++ wsX60 ++ wsX00 ++ wsX40)
def wsX6_tuned_r1 : List Cond := [Cond.fieldLink RX6 10 "JoinedLight" "bench" "LJoinedLight$Bench;", Cond.fieldLink RX6 134 "JoinedLight$Bench" "kinds" "[I", Cond.constant RX6 94 (-1000000001), Cond.fieldLink RX6 36 "JoinedLight" "choice" "LJoinedLight$Choice;", Cond.fieldLink RX6 16 "JoinedLight" "trial" "LJoinedLight$Bench;", Cond.fieldLink RX6 140 "JoinedLight$Bench" "seconds" "[I", Cond.fieldLink RX6 189 "JoinedLight$Choice" "value" "I", Cond.methodLink RX6 179 yX0_indexOf, Cond.instanceMethod yX0_indexOf, Cond.selects RX0 yX0_indexOf yX0_indexOf, Cond.initialized RX0, Cond.code yX0_indexOf cX0_indexOf 3 (some .int), Cond.fieldLink RX0 22 "JoinedLight$Bench" "places" "[I", Cond.methodLink RX0 49 yX0_hasThing, Cond.instanceMethod yX0_hasThing, Cond.selects RX0 yX0_hasThing yX0_hasThing, Cond.code yX0_hasThing cX0_hasThing 2 (some .boolean), Cond.fieldLink RX0 37 "JoinedLight$Bench" "thingCount" "I", Cond.methodLink RX6 128 yX0_hasThing, Cond.methodLink RX6 182 yX2_clear, Cond.instanceMethod yX2_clear, Cond.selects RX2 yX2_clear yX2_clear, Cond.initialized RX2, Cond.code yX2_clear cX2_clear 1 none]
def wsX6_tuned_r2 : List Cond := [Cond.fieldLink RX2 13 "JoinedLight$Choice" "arrivals" "I", Cond.methodLink RX6 54 yX0_copyFrom, Cond.instanceMethod yX0_copyFrom, Cond.selects RX0 yX0_copyFrom yX0_copyFrom, Cond.code yX0_copyFrom cX0_copyFrom 2 none, Cond.fieldLink RX0 9 "JoinedLight$Bench" "colours" "[I", Cond.methodLink RX0 43 arraycopyName, Cond.native arraycopyName, Cond.static arraycopyName, Cond.initialized "java/lang/System", Cond.fieldLink RX0 15 "JoinedLight$Bench" "lights" "[I", Cond.fieldLink RX0 18 "JoinedLight$Bench" "lineCount" "I", Cond.fieldLink RX0 25 "JoinedLight$Bench" "kinds" "[I", Cond.fieldLink RX0 28 "JoinedLight$Bench" "firsts" "[I", Cond.fieldLink RX0 31 "JoinedLight$Bench" "seconds" "[I", Cond.fieldLink RX0 34 "JoinedLight$Bench" "turns" "[I", Cond.fieldLink RX0 40 "JoinedLight$Bench" "cellWidth" "I", Cond.methodLink RX6 200 yX6_offerTrial, Cond.instanceMethod yX6_offerTrial, Cond.selects RX6 yX6_offerTrial yX6_offerTrial, Cond.initialized RX6, Cond.code yX6_offerTrial cX6_offerTrial 2 none, Cond.fieldLink RX6 22 "JoinedLight" "rays" "LJoinedLight$Rays;", Cond.methodLink RX6 95 yX4_follow]
def wsX6_tuned_r3 : List Cond := [Cond.instanceMethod yX4_follow, Cond.selects RX4 yX4_follow yX4_follow, Cond.initialized RX4, Cond.code yX4_follow cX4_follow 3 none, Cond.fieldLink RX4 38 "JoinedLight$Bench" "lineCount" "I", Cond.fieldLink RX4 24 "JoinedLight$Rays" "followed" "I", Cond.methodLink RX4 28 yX0_hasLine, Cond.instanceMethod yX0_hasLine, Cond.selects RX0 yX0_hasLine yX0_hasLine, Cond.code yX0_hasLine cX0_hasLine 2 (some .boolean), Cond.methodLink RX4 34 yX4_followLine, Cond.instanceMethod yX4_followLine, Cond.selects RX4 yX4_followLine yX4_followLine, Cond.code yX4_followLine cX4_followLine 10 none, Cond.fieldLink RX4 41 "JoinedLight$Bench" "colours" "[I", Cond.fieldLink RX4 47 "JoinedLight$Bench" "places" "[I", Cond.fieldLink RX4 9 "JoinedLight$Rays" "heights" "[I", Cond.fieldLink RX4 15 "JoinedLight$Rays" "slopes" "[I", Cond.methodLink RX4 44 yX0_hasThing, Cond.methodLink RX4 50 yX4_rise, Cond.static yX4_rise, Cond.code yX4_rise cX4_rise 2 (some .int), Cond.methodLink RX4 67 yJ9_floorDiv_7cf53, Cond.static yJ9_floorDiv_7cf53]
def wsX6_tuned_r4 : List Cond := [Cond.initialized RJ9, Cond.code yJ9_floorDiv_7cf53 cJ9_floorDiv_7cf53 3 (some .int), Cond.methodLink RX4 54 yX0_whyLostAt, Cond.instanceMethod yX0_whyLostAt, Cond.selects RX0 yX0_whyLostAt yX0_whyLostAt, Cond.code yX0_whyLostAt cX0_whyLostAt 4 (some .int), Cond.methodLink RX0 90 yX0_isBeyond, Cond.static yX0_isBeyond, Cond.code yX0_isBeyond cX0_isBeyond 1 (some .boolean), Cond.static yX6_within, Cond.code yX6_within cX6_within 3 (some .boolean), Cond.methodLink RX4 57 yX4_finish, Cond.instanceMethod yX4_finish, Cond.selects RX4 yX4_finish yX4_finish, Cond.code yX4_finish cX4_finish 4 none, Cond.fieldLink RX4 18 "JoinedLight$Rays" "lostAt" "[I", Cond.fieldLink RX4 21 "JoinedLight$Rays" "lostWhy" "[I", Cond.methodLink RX4 61 yX0_bendAt, Cond.instanceMethod yX0_bendAt, Cond.selects RX0 yX0_bendAt yX0_bendAt, Cond.code yX0_bendAt cX0_bendAt 4 (some .int), Cond.static yX6_bendingOf, Cond.code yX6_bendingOf cX6_bendingOf 3 (some .int), Cond.methodLink RX6 258 yJ9_floorDiv_7cf53]
def wsX6_tuned_r5 : List Cond := [Cond.methodLink RX0 53 yJ9_floorDiv_7cf53, Cond.methodLink RX4 64 yX0_isBeyond, Cond.methodLink RX6 273 yX4_linesOnScreen, Cond.instanceMethod yX4_linesOnScreen, Cond.selects RX4 yX4_linesOnScreen yX4_linesOnScreen, Cond.code yX4_linesOnScreen cX4_linesOnScreen 3 (some .int), Cond.methodLink RX4 72 yX4_has, Cond.instanceMethod yX4_has, Cond.selects RX4 yX4_has yX4_has, Cond.code yX4_has cX4_has 2 (some .boolean), Cond.methodLink RX4 75 yX4_comes, Cond.instanceMethod yX4_comes, Cond.selects RX4 yX4_comes yX4_comes, Cond.code yX4_comes cX4_comes 2 (some .boolean), Cond.methodLink RX6 276 yJ6_bitCount_0f7a4, Cond.static yJ6_bitCount_0f7a4, Cond.initialized RJ6, Cond.code yJ6_bitCount_0f7a4 cJ6_bitCount_0f7a4 1 (some .int), Cond.constant RJ6 265 (1431655765), Cond.constant RJ6 266 (858993459), Cond.constant RJ6 267 (252645135), Cond.methodLink RX6 281 yX4_spread, Cond.instanceMethod yX4_spread, Cond.selects RX4 yX4_spread yX4_spread]
def wsX6_tuned_r6 : List Cond := [Cond.code yX4_spread cX4_spread 4 (some .int), Cond.methodLink RX4 81 Lib.Math.min.name, Cond.static Lib.Math.min.name, Cond.initialized "java/lang/Math", Cond.code Lib.Math.min.name Lib.Math.min.code 2 (some .int), Cond.methodLink RX4 84 Lib.Math.max.name, Cond.static Lib.Math.max.name, Cond.code Lib.Math.max.name Lib.Math.max.code 2 (some .int), Cond.methodLink RX6 283 yX2_offer, Cond.instanceMethod yX2_offer, Cond.selects RX2 yX2_offer yX2_offer, Cond.code yX2_offer cX2_offer 4 none, Cond.fieldLink RX2 16 "JoinedLight$Choice" "spread" "I", Cond.fieldLink RX2 7 "JoinedLight$Choice" "value" "I"]
def wsX6_tuned : List Cond := .code yX6_tuned cX6_tuned 4 (some .int) :: ((wsX6_tuned_r1 ++ (wsX6_tuned_r2 ++ (wsX6_tuned_r3 ++ (wsX6_tuned_r4 ++ (wsX6_tuned_r5 ++ wsX6_tuned_r6))))) ++ wsX60 ++ wsX00 ++ wsX20 ++ wsX40)
def wsX6_bitsOf : List Cond := .code yX6_bitsOf cX6_bitsOf 3 (some .int) :: ([.constantFloat RX6 297 (1258291200)])
def wsX6_share_r1 : List Cond := [Cond.fieldLink RX6 10 "JoinedLight" "bench" "LJoinedLight$Bench;", Cond.constant RX6 115 (-1000000004), Cond.fieldLink RX6 22 "JoinedLight" "rays" "LJoinedLight$Rays;", Cond.methodLink RX6 204 yX0_lightOfAll, Cond.instanceMethod yX0_lightOfAll, Cond.selects RX0 yX0_lightOfAll yX0_lightOfAll, Cond.initialized RX0, Cond.code yX0_lightOfAll cX0_lightOfAll 3 (some .int), Cond.fieldLink RX0 15 "JoinedLight$Bench" "lights" "[I", Cond.methodLink RX0 59 yX0_hasLine, Cond.instanceMethod yX0_hasLine, Cond.selects RX0 yX0_hasLine yX0_hasLine, Cond.code yX0_hasLine cX0_hasLine 2 (some .boolean), Cond.fieldLink RX0 18 "JoinedLight$Bench" "lineCount" "I", Cond.methodLink RX6 95 yX4_follow, Cond.instanceMethod yX4_follow, Cond.selects RX4 yX4_follow yX4_follow, Cond.initialized RX4, Cond.code yX4_follow cX4_follow 3 none, Cond.fieldLink RX4 38 "JoinedLight$Bench" "lineCount" "I", Cond.fieldLink RX4 24 "JoinedLight$Rays" "followed" "I", Cond.methodLink RX4 28 yX0_hasLine, Cond.methodLink RX4 34 yX4_followLine, Cond.instanceMethod yX4_followLine]
def wsX6_share_r2 : List Cond := [Cond.selects RX4 yX4_followLine yX4_followLine, Cond.code yX4_followLine cX4_followLine 10 none, Cond.fieldLink RX4 41 "JoinedLight$Bench" "colours" "[I", Cond.fieldLink RX4 47 "JoinedLight$Bench" "places" "[I", Cond.fieldLink RX4 9 "JoinedLight$Rays" "heights" "[I", Cond.fieldLink RX4 15 "JoinedLight$Rays" "slopes" "[I", Cond.methodLink RX4 44 yX0_hasThing, Cond.instanceMethod yX0_hasThing, Cond.selects RX0 yX0_hasThing yX0_hasThing, Cond.code yX0_hasThing cX0_hasThing 2 (some .boolean), Cond.fieldLink RX0 37 "JoinedLight$Bench" "thingCount" "I", Cond.methodLink RX4 50 yX4_rise, Cond.static yX4_rise, Cond.code yX4_rise cX4_rise 2 (some .int), Cond.methodLink RX4 67 yJ9_floorDiv_7cf53, Cond.static yJ9_floorDiv_7cf53, Cond.initialized RJ9, Cond.code yJ9_floorDiv_7cf53 cJ9_floorDiv_7cf53 3 (some .int), Cond.methodLink RX4 54 yX0_whyLostAt, Cond.instanceMethod yX0_whyLostAt, Cond.selects RX0 yX0_whyLostAt yX0_whyLostAt, Cond.code yX0_whyLostAt cX0_whyLostAt 4 (some .int), Cond.fieldLink RX0 25 "JoinedLight$Bench" "kinds" "[I", Cond.fieldLink RX0 28 "JoinedLight$Bench" "firsts" "[I"]
def wsX6_share_r3 : List Cond := [Cond.fieldLink RX0 31 "JoinedLight$Bench" "seconds" "[I", Cond.methodLink RX0 90 yX0_isBeyond, Cond.static yX0_isBeyond, Cond.code yX0_isBeyond cX0_isBeyond 1 (some .boolean), Cond.static yX6_within, Cond.initialized RX6, Cond.code yX6_within cX6_within 3 (some .boolean), Cond.methodLink RX0 49 yX0_hasThing, Cond.methodLink RX4 57 yX4_finish, Cond.instanceMethod yX4_finish, Cond.selects RX4 yX4_finish yX4_finish, Cond.code yX4_finish cX4_finish 4 none, Cond.fieldLink RX4 18 "JoinedLight$Rays" "lostAt" "[I", Cond.fieldLink RX4 21 "JoinedLight$Rays" "lostWhy" "[I", Cond.methodLink RX4 61 yX0_bendAt, Cond.instanceMethod yX0_bendAt, Cond.selects RX0 yX0_bendAt yX0_bendAt, Cond.code yX0_bendAt cX0_bendAt 4 (some .int), Cond.fieldLink RX0 34 "JoinedLight$Bench" "turns" "[I", Cond.static yX6_bendingOf, Cond.code yX6_bendingOf cX6_bendingOf 3 (some .int), Cond.methodLink RX6 258 yJ9_floorDiv_7cf53, Cond.methodLink RX0 53 yJ9_floorDiv_7cf53, Cond.methodLink RX4 64 yX0_isBeyond]
def wsX6_share_r4 : List Cond := [Cond.methodLink RX6 208 yX4_lightOnScreen, Cond.instanceMethod yX4_lightOnScreen, Cond.selects RX4 yX4_lightOnScreen yX4_lightOnScreen, Cond.code yX4_lightOnScreen cX4_lightOnScreen 4 (some .int), Cond.fieldLink RX4 78 "JoinedLight$Bench" "lights" "[I", Cond.methodLink RX4 75 yX4_comes, Cond.instanceMethod yX4_comes, Cond.selects RX4 yX4_comes yX4_comes, Cond.code yX4_comes cX4_comes 2 (some .boolean), Cond.methodLink RX6 212 yX6_bitsOf, Cond.static yX6_bitsOf, Cond.code yX6_bitsOf cX6_bitsOf 3 (some .int), Cond.constantFloat RX6 297 (1258291200)]
def wsX6_share : List Cond := .code yX6_share cX6_share 2 (some .int) :: ((wsX6_share_r1 ++ (wsX6_share_r2 ++ (wsX6_share_r3 ++ wsX6_share_r4))) ++ wsX60 ++ wsX00 ++ wsX40)
def wsX6_lightIsJoined_r1 : List Cond := [Cond.fieldLink RX6 29 "JoinedLight" "cells" "LJoinedLight$Cells;", Cond.fieldLink RX6 10 "JoinedLight" "bench" "LJoinedLight$Bench;", Cond.fieldLink RX6 22 "JoinedLight" "rays" "LJoinedLight$Rays;", Cond.fieldLink RX6 294 "JoinedLight$Cells" "used" "I", Cond.fieldLink RX6 216 "JoinedLight$Bench" "lineCount" "I", Cond.methodLink RX6 156 yX1_gather, Cond.instanceMethod yX1_gather, Cond.selects RX1 yX1_gather yX1_gather, Cond.initialized RX1, Cond.code yX1_gather cX1_gather 4 none, Cond.fieldLink RX1 21 "JoinedLight$Cells" "used" "I", Cond.fieldLink RX1 36 "JoinedLight$Rays" "heights" "[I", Cond.fieldLink RX1 43 "JoinedLight$Bench" "lights" "[I", Cond.methodLink RX1 25 yX0_hasLine, Cond.instanceMethod yX0_hasLine, Cond.selects RX0 yX0_hasLine yX0_hasLine, Cond.initialized RX0, Cond.code yX0_hasLine cX0_hasLine 2 (some .boolean), Cond.fieldLink RX0 18 "JoinedLight$Bench" "lineCount" "I", Cond.methodLink RX1 31 yX4_comes, Cond.instanceMethod yX4_comes, Cond.selects RX4 yX4_comes yX4_comes, Cond.initialized RX4, Cond.code yX4_comes cX4_comes 2 (some .boolean)]
def wsX6_lightIsJoined_r2 : List Cond := [Cond.fieldLink RX4 21 "JoinedLight$Rays" "lostWhy" "[I", Cond.methodLink RX1 39 yX0_cellOf, Cond.instanceMethod yX0_cellOf, Cond.selects RX0 yX0_cellOf yX0_cellOf, Cond.code yX0_cellOf cX0_cellOf 2 (some .int), Cond.fieldLink RX0 40 "JoinedLight$Bench" "cellWidth" "I", Cond.methodLink RX0 53 yJ9_floorDiv_7cf53, Cond.static yJ9_floorDiv_7cf53, Cond.initialized RJ9, Cond.code yJ9_floorDiv_7cf53 cJ9_floorDiv_7cf53 3 (some .int), Cond.methodLink RX1 44 yX1_addTo, Cond.instanceMethod yX1_addTo, Cond.selects RX1 yX1_addTo yX1_addTo, Cond.code yX1_addTo cX1_addTo 5 none, Cond.fieldLink RX1 9 "JoinedLight$Cells" "numbers" "[I", Cond.fieldLink RX1 15 "JoinedLight$Cells" "lights" "[I", Cond.fieldLink RX1 18 "JoinedLight$Cells" "lines" "[I", Cond.methodLink RX1 48 yX1_slotOf, Cond.instanceMethod yX1_slotOf, Cond.selects RX1 yX1_slotOf yX1_slotOf, Cond.code yX1_slotOf cX1_slotOf 3 (some .int), Cond.methodLink RX1 51 yX1_hasSlot, Cond.instanceMethod yX1_hasSlot, Cond.selects RX1 yX1_hasSlot yX1_hasSlot]
def wsX6_lightIsJoined_r3 : List Cond := [Cond.code yX1_hasSlot cX1_hasSlot 2 (some .boolean), Cond.methodLink RX6 273 yX4_linesOnScreen, Cond.instanceMethod yX4_linesOnScreen, Cond.selects RX4 yX4_linesOnScreen yX4_linesOnScreen, Cond.code yX4_linesOnScreen cX4_linesOnScreen 3 (some .int), Cond.methodLink RX4 72 yX4_has, Cond.instanceMethod yX4_has, Cond.selects RX4 yX4_has yX4_has, Cond.code yX4_has cX4_has 2 (some .boolean), Cond.fieldLink RX4 24 "JoinedLight$Rays" "followed" "I", Cond.methodLink RX4 75 yX4_comes, Cond.methodLink RX6 276 yJ6_bitCount_0f7a4, Cond.static yJ6_bitCount_0f7a4, Cond.initialized RJ6, Cond.code yJ6_bitCount_0f7a4 cJ6_bitCount_0f7a4 1 (some .int), Cond.constant RJ6 265 (1431655765), Cond.constant RJ6 266 (858993459), Cond.constant RJ6 267 (252645135)]
def wsX6_lightIsJoined : List Cond := .code yX6_lightIsJoined cX6_lightIsJoined 1 (some .boolean) :: ((wsX6_lightIsJoined_r1 ++ (wsX6_lightIsJoined_r2 ++ wsX6_lightIsJoined_r3)) ++ wsX60 ++ wsX10 ++ wsX00 ++ wsX40)
def wsX6_countOfRays_r1 : List Cond := [Cond.fieldLink RX6 22 "JoinedLight" "rays" "LJoinedLight$Rays;", Cond.fieldLink RX6 10 "JoinedLight" "bench" "LJoinedLight$Bench;", Cond.fieldLink RX6 29 "JoinedLight" "cells" "LJoinedLight$Cells;", Cond.fieldLink RX6 294 "JoinedLight$Cells" "used" "I", Cond.constant RX6 94 (-1000000001), Cond.methodLink RX6 95 yX4_follow, Cond.instanceMethod yX4_follow, Cond.selects RX4 yX4_follow yX4_follow, Cond.initialized RX4, Cond.code yX4_follow cX4_follow 3 none, Cond.fieldLink RX4 38 "JoinedLight$Bench" "lineCount" "I", Cond.fieldLink RX4 24 "JoinedLight$Rays" "followed" "I", Cond.methodLink RX4 28 yX0_hasLine, Cond.instanceMethod yX0_hasLine, Cond.selects RX0 yX0_hasLine yX0_hasLine, Cond.initialized RX0, Cond.code yX0_hasLine cX0_hasLine 2 (some .boolean), Cond.fieldLink RX0 18 "JoinedLight$Bench" "lineCount" "I", Cond.methodLink RX4 34 yX4_followLine, Cond.instanceMethod yX4_followLine, Cond.selects RX4 yX4_followLine yX4_followLine, Cond.code yX4_followLine cX4_followLine 10 none, Cond.fieldLink RX4 41 "JoinedLight$Bench" "colours" "[I", Cond.fieldLink RX4 47 "JoinedLight$Bench" "places" "[I"]
def wsX6_countOfRays_r2 : List Cond := [Cond.fieldLink RX4 9 "JoinedLight$Rays" "heights" "[I", Cond.fieldLink RX4 15 "JoinedLight$Rays" "slopes" "[I", Cond.methodLink RX4 44 yX0_hasThing, Cond.instanceMethod yX0_hasThing, Cond.selects RX0 yX0_hasThing yX0_hasThing, Cond.code yX0_hasThing cX0_hasThing 2 (some .boolean), Cond.fieldLink RX0 37 "JoinedLight$Bench" "thingCount" "I", Cond.methodLink RX4 50 yX4_rise, Cond.static yX4_rise, Cond.code yX4_rise cX4_rise 2 (some .int), Cond.methodLink RX4 67 yJ9_floorDiv_7cf53, Cond.static yJ9_floorDiv_7cf53, Cond.initialized RJ9, Cond.code yJ9_floorDiv_7cf53 cJ9_floorDiv_7cf53 3 (some .int), Cond.methodLink RX4 54 yX0_whyLostAt, Cond.instanceMethod yX0_whyLostAt, Cond.selects RX0 yX0_whyLostAt yX0_whyLostAt, Cond.code yX0_whyLostAt cX0_whyLostAt 4 (some .int), Cond.fieldLink RX0 25 "JoinedLight$Bench" "kinds" "[I", Cond.fieldLink RX0 28 "JoinedLight$Bench" "firsts" "[I", Cond.fieldLink RX0 31 "JoinedLight$Bench" "seconds" "[I", Cond.methodLink RX0 90 yX0_isBeyond, Cond.static yX0_isBeyond, Cond.code yX0_isBeyond cX0_isBeyond 1 (some .boolean)]
def wsX6_countOfRays_r3 : List Cond := [Cond.static yX6_within, Cond.initialized RX6, Cond.code yX6_within cX6_within 3 (some .boolean), Cond.methodLink RX0 49 yX0_hasThing, Cond.methodLink RX4 57 yX4_finish, Cond.instanceMethod yX4_finish, Cond.selects RX4 yX4_finish yX4_finish, Cond.code yX4_finish cX4_finish 4 none, Cond.fieldLink RX4 18 "JoinedLight$Rays" "lostAt" "[I", Cond.fieldLink RX4 21 "JoinedLight$Rays" "lostWhy" "[I", Cond.methodLink RX4 61 yX0_bendAt, Cond.instanceMethod yX0_bendAt, Cond.selects RX0 yX0_bendAt yX0_bendAt, Cond.code yX0_bendAt cX0_bendAt 4 (some .int), Cond.fieldLink RX0 34 "JoinedLight$Bench" "turns" "[I", Cond.static yX6_bendingOf, Cond.code yX6_bendingOf cX6_bendingOf 3 (some .int), Cond.methodLink RX6 258 yJ9_floorDiv_7cf53, Cond.methodLink RX0 53 yJ9_floorDiv_7cf53, Cond.methodLink RX4 64 yX0_isBeyond, Cond.methodLink RX6 273 yX4_linesOnScreen, Cond.instanceMethod yX4_linesOnScreen, Cond.selects RX4 yX4_linesOnScreen yX4_linesOnScreen, Cond.code yX4_linesOnScreen cX4_linesOnScreen 3 (some .int)]
def wsX6_countOfRays_r4 : List Cond := [Cond.methodLink RX4 72 yX4_has, Cond.instanceMethod yX4_has, Cond.selects RX4 yX4_has yX4_has, Cond.code yX4_has cX4_has 2 (some .boolean), Cond.methodLink RX4 75 yX4_comes, Cond.instanceMethod yX4_comes, Cond.selects RX4 yX4_comes yX4_comes, Cond.code yX4_comes cX4_comes 2 (some .boolean), Cond.methodLink RX6 281 yX4_spread, Cond.instanceMethod yX4_spread, Cond.selects RX4 yX4_spread yX4_spread, Cond.code yX4_spread cX4_spread 4 (some .int), Cond.methodLink RX4 81 Lib.Math.min.name, Cond.static Lib.Math.min.name, Cond.initialized "java/lang/Math", Cond.code Lib.Math.min.name Lib.Math.min.code 2 (some .int), Cond.methodLink RX4 84 Lib.Math.max.name, Cond.static Lib.Math.max.name, Cond.code Lib.Math.max.name Lib.Math.max.code 2 (some .int), Cond.methodLink RX6 287 yX6_lightIsJoined, Cond.instanceMethod yX6_lightIsJoined, Cond.selects RX6 yX6_lightIsJoined yX6_lightIsJoined, Cond.code yX6_lightIsJoined cX6_lightIsJoined 1 (some .boolean), Cond.fieldLink RX6 216 "JoinedLight$Bench" "lineCount" "I"]
def wsX6_countOfRays_r5 : List Cond := [Cond.methodLink RX6 156 yX1_gather, Cond.instanceMethod yX1_gather, Cond.selects RX1 yX1_gather yX1_gather, Cond.initialized RX1, Cond.code yX1_gather cX1_gather 4 none, Cond.fieldLink RX1 21 "JoinedLight$Cells" "used" "I", Cond.fieldLink RX1 36 "JoinedLight$Rays" "heights" "[I", Cond.fieldLink RX1 43 "JoinedLight$Bench" "lights" "[I", Cond.methodLink RX1 25 yX0_hasLine, Cond.methodLink RX1 31 yX4_comes, Cond.methodLink RX1 39 yX0_cellOf, Cond.instanceMethod yX0_cellOf, Cond.selects RX0 yX0_cellOf yX0_cellOf, Cond.code yX0_cellOf cX0_cellOf 2 (some .int), Cond.fieldLink RX0 40 "JoinedLight$Bench" "cellWidth" "I", Cond.methodLink RX1 44 yX1_addTo, Cond.instanceMethod yX1_addTo, Cond.selects RX1 yX1_addTo yX1_addTo, Cond.code yX1_addTo cX1_addTo 5 none, Cond.fieldLink RX1 9 "JoinedLight$Cells" "numbers" "[I", Cond.fieldLink RX1 15 "JoinedLight$Cells" "lights" "[I", Cond.fieldLink RX1 18 "JoinedLight$Cells" "lines" "[I", Cond.methodLink RX1 48 yX1_slotOf, Cond.instanceMethod yX1_slotOf]
def wsX6_countOfRays_r6 : List Cond := [Cond.selects RX1 yX1_slotOf yX1_slotOf, Cond.code yX1_slotOf cX1_slotOf 3 (some .int), Cond.methodLink RX1 51 yX1_hasSlot, Cond.instanceMethod yX1_hasSlot, Cond.selects RX1 yX1_hasSlot yX1_hasSlot, Cond.code yX1_hasSlot cX1_hasSlot 2 (some .boolean), Cond.methodLink RX6 276 yJ6_bitCount_0f7a4, Cond.static yJ6_bitCount_0f7a4, Cond.initialized RJ6, Cond.code yJ6_bitCount_0f7a4 cJ6_bitCount_0f7a4 1 (some .int), Cond.constant RJ6 265 (1431655765), Cond.constant RJ6 266 (858993459), Cond.constant RJ6 267 (252645135), Cond.methodLink RX6 108 yX6_oneIf, Cond.static yX6_oneIf, Cond.code yX6_oneIf cX6_oneIf 1 (some .int), Cond.methodLink RX6 291 yX4_slopesAreSame, Cond.instanceMethod yX4_slopesAreSame, Cond.selects RX4 yX4_slopesAreSame yX4_slopesAreSame, Cond.code yX4_slopesAreSame cX4_slopesAreSame 2 (some .boolean), Cond.methodLink RX6 208 yX4_lightOnScreen, Cond.instanceMethod yX4_lightOnScreen, Cond.selects RX4 yX4_lightOnScreen yX4_lightOnScreen, Cond.code yX4_lightOnScreen cX4_lightOnScreen 4 (some .int)]
def wsX6_countOfRays_r7 : List Cond := [Cond.fieldLink RX4 78 "JoinedLight$Bench" "lights" "[I", Cond.methodLink RX6 204 yX0_lightOfAll, Cond.instanceMethod yX0_lightOfAll, Cond.selects RX0 yX0_lightOfAll yX0_lightOfAll, Cond.code yX0_lightOfAll cX0_lightOfAll 3 (some .int), Cond.fieldLink RX0 15 "JoinedLight$Bench" "lights" "[I", Cond.methodLink RX0 59 yX0_hasLine, Cond.methodLink RX6 150 yX4_lightLostAt, Cond.instanceMethod yX4_lightLostAt, Cond.selects RX4 yX4_lightLostAt yX4_lightLostAt, Cond.code yX4_lightLostAt cX4_lightLostAt 5 (some .int)]
def wsX6_countOfRays : List Cond := .code yX6_countOfRays cX6_countOfRays 2 (some .int) :: ((wsX6_countOfRays_r1 ++ (wsX6_countOfRays_r2 ++ (wsX6_countOfRays_r3 ++ (wsX6_countOfRays_r4 ++ (wsX6_countOfRays_r5 ++ (wsX6_countOfRays_r6 ++ wsX6_countOfRays_r7)))))) ++ wsX60 ++ wsX10 ++ wsX00 ++ wsX40)
def wsX6_count_r1 : List Cond := [Cond.fieldLink RX6 10 "JoinedLight" "bench" "LJoinedLight$Bench;", Cond.fieldLink RX6 216 "JoinedLight$Bench" "lineCount" "I", Cond.fieldLink RX6 219 "JoinedLight$Bench" "thingCount" "I", Cond.fieldLink RX6 43 "JoinedLight" "history" "LJoinedLight$History;", Cond.fieldLink RX6 222 "JoinedLight$History" "states" "I", Cond.fieldLink RX6 50 "JoinedLight" "text" "LJoinedLight$Text;", Cond.fieldLink RX6 225 "JoinedLight$Text" "length" "I", Cond.fieldLink RX6 228 "JoinedLight$Bench" "cellWidth" "I", Cond.methodLink RX6 204 yX0_lightOfAll, Cond.instanceMethod yX0_lightOfAll, Cond.selects RX0 yX0_lightOfAll yX0_lightOfAll, Cond.initialized RX0, Cond.code yX0_lightOfAll cX0_lightOfAll 3 (some .int), Cond.fieldLink RX0 15 "JoinedLight$Bench" "lights" "[I", Cond.methodLink RX0 59 yX0_hasLine, Cond.instanceMethod yX0_hasLine, Cond.selects RX0 yX0_hasLine yX0_hasLine, Cond.code yX0_hasLine cX0_hasLine 2 (some .boolean), Cond.fieldLink RX0 18 "JoinedLight$Bench" "lineCount" "I", Cond.methodLink RX6 231 yX6_countOfRays, Cond.instanceMethod yX6_countOfRays, Cond.selects RX6 yX6_countOfRays yX6_countOfRays, Cond.initialized RX6, Cond.code yX6_countOfRays cX6_countOfRays 2 (some .int)]
def wsX6_count_r2 : List Cond := [Cond.fieldLink RX6 22 "JoinedLight" "rays" "LJoinedLight$Rays;", Cond.fieldLink RX6 29 "JoinedLight" "cells" "LJoinedLight$Cells;", Cond.fieldLink RX6 294 "JoinedLight$Cells" "used" "I", Cond.constant RX6 94 (-1000000001), Cond.methodLink RX6 95 yX4_follow, Cond.instanceMethod yX4_follow, Cond.selects RX4 yX4_follow yX4_follow, Cond.initialized RX4, Cond.code yX4_follow cX4_follow 3 none, Cond.fieldLink RX4 38 "JoinedLight$Bench" "lineCount" "I", Cond.fieldLink RX4 24 "JoinedLight$Rays" "followed" "I", Cond.methodLink RX4 28 yX0_hasLine, Cond.methodLink RX4 34 yX4_followLine, Cond.instanceMethod yX4_followLine, Cond.selects RX4 yX4_followLine yX4_followLine, Cond.code yX4_followLine cX4_followLine 10 none, Cond.fieldLink RX4 41 "JoinedLight$Bench" "colours" "[I", Cond.fieldLink RX4 47 "JoinedLight$Bench" "places" "[I", Cond.fieldLink RX4 9 "JoinedLight$Rays" "heights" "[I", Cond.fieldLink RX4 15 "JoinedLight$Rays" "slopes" "[I", Cond.methodLink RX4 44 yX0_hasThing, Cond.instanceMethod yX0_hasThing, Cond.selects RX0 yX0_hasThing yX0_hasThing, Cond.code yX0_hasThing cX0_hasThing 2 (some .boolean)]
def wsX6_count_r3 : List Cond := [Cond.fieldLink RX0 37 "JoinedLight$Bench" "thingCount" "I", Cond.methodLink RX4 50 yX4_rise, Cond.static yX4_rise, Cond.code yX4_rise cX4_rise 2 (some .int), Cond.methodLink RX4 67 yJ9_floorDiv_7cf53, Cond.static yJ9_floorDiv_7cf53, Cond.initialized RJ9, Cond.code yJ9_floorDiv_7cf53 cJ9_floorDiv_7cf53 3 (some .int), Cond.methodLink RX4 54 yX0_whyLostAt, Cond.instanceMethod yX0_whyLostAt, Cond.selects RX0 yX0_whyLostAt yX0_whyLostAt, Cond.code yX0_whyLostAt cX0_whyLostAt 4 (some .int), Cond.fieldLink RX0 25 "JoinedLight$Bench" "kinds" "[I", Cond.fieldLink RX0 28 "JoinedLight$Bench" "firsts" "[I", Cond.fieldLink RX0 31 "JoinedLight$Bench" "seconds" "[I", Cond.methodLink RX0 90 yX0_isBeyond, Cond.static yX0_isBeyond, Cond.code yX0_isBeyond cX0_isBeyond 1 (some .boolean), Cond.static yX6_within, Cond.code yX6_within cX6_within 3 (some .boolean), Cond.methodLink RX0 49 yX0_hasThing, Cond.methodLink RX4 57 yX4_finish, Cond.instanceMethod yX4_finish, Cond.selects RX4 yX4_finish yX4_finish]
def wsX6_count_r4 : List Cond := [Cond.code yX4_finish cX4_finish 4 none, Cond.fieldLink RX4 18 "JoinedLight$Rays" "lostAt" "[I", Cond.fieldLink RX4 21 "JoinedLight$Rays" "lostWhy" "[I", Cond.methodLink RX4 61 yX0_bendAt, Cond.instanceMethod yX0_bendAt, Cond.selects RX0 yX0_bendAt yX0_bendAt, Cond.code yX0_bendAt cX0_bendAt 4 (some .int), Cond.fieldLink RX0 34 "JoinedLight$Bench" "turns" "[I", Cond.static yX6_bendingOf, Cond.code yX6_bendingOf cX6_bendingOf 3 (some .int), Cond.methodLink RX6 258 yJ9_floorDiv_7cf53, Cond.methodLink RX0 53 yJ9_floorDiv_7cf53, Cond.methodLink RX4 64 yX0_isBeyond, Cond.methodLink RX6 273 yX4_linesOnScreen, Cond.instanceMethod yX4_linesOnScreen, Cond.selects RX4 yX4_linesOnScreen yX4_linesOnScreen, Cond.code yX4_linesOnScreen cX4_linesOnScreen 3 (some .int), Cond.methodLink RX4 72 yX4_has, Cond.instanceMethod yX4_has, Cond.selects RX4 yX4_has yX4_has, Cond.code yX4_has cX4_has 2 (some .boolean), Cond.methodLink RX4 75 yX4_comes, Cond.instanceMethod yX4_comes, Cond.selects RX4 yX4_comes yX4_comes]
def wsX6_count_r5 : List Cond := [Cond.code yX4_comes cX4_comes 2 (some .boolean), Cond.methodLink RX6 281 yX4_spread, Cond.instanceMethod yX4_spread, Cond.selects RX4 yX4_spread yX4_spread, Cond.code yX4_spread cX4_spread 4 (some .int), Cond.methodLink RX4 81 Lib.Math.min.name, Cond.static Lib.Math.min.name, Cond.initialized "java/lang/Math", Cond.code Lib.Math.min.name Lib.Math.min.code 2 (some .int), Cond.methodLink RX4 84 Lib.Math.max.name, Cond.static Lib.Math.max.name, Cond.code Lib.Math.max.name Lib.Math.max.code 2 (some .int), Cond.methodLink RX6 287 yX6_lightIsJoined, Cond.instanceMethod yX6_lightIsJoined, Cond.selects RX6 yX6_lightIsJoined yX6_lightIsJoined, Cond.code yX6_lightIsJoined cX6_lightIsJoined 1 (some .boolean), Cond.methodLink RX6 156 yX1_gather, Cond.instanceMethod yX1_gather, Cond.selects RX1 yX1_gather yX1_gather, Cond.initialized RX1, Cond.code yX1_gather cX1_gather 4 none, Cond.fieldLink RX1 21 "JoinedLight$Cells" "used" "I", Cond.fieldLink RX1 36 "JoinedLight$Rays" "heights" "[I", Cond.fieldLink RX1 43 "JoinedLight$Bench" "lights" "[I"]
def wsX6_count_r6 : List Cond := [Cond.methodLink RX1 25 yX0_hasLine, Cond.methodLink RX1 31 yX4_comes, Cond.methodLink RX1 39 yX0_cellOf, Cond.instanceMethod yX0_cellOf, Cond.selects RX0 yX0_cellOf yX0_cellOf, Cond.code yX0_cellOf cX0_cellOf 2 (some .int), Cond.fieldLink RX0 40 "JoinedLight$Bench" "cellWidth" "I", Cond.methodLink RX1 44 yX1_addTo, Cond.instanceMethod yX1_addTo, Cond.selects RX1 yX1_addTo yX1_addTo, Cond.code yX1_addTo cX1_addTo 5 none, Cond.fieldLink RX1 9 "JoinedLight$Cells" "numbers" "[I", Cond.fieldLink RX1 15 "JoinedLight$Cells" "lights" "[I", Cond.fieldLink RX1 18 "JoinedLight$Cells" "lines" "[I", Cond.methodLink RX1 48 yX1_slotOf, Cond.instanceMethod yX1_slotOf, Cond.selects RX1 yX1_slotOf yX1_slotOf, Cond.code yX1_slotOf cX1_slotOf 3 (some .int), Cond.methodLink RX1 51 yX1_hasSlot, Cond.instanceMethod yX1_hasSlot, Cond.selects RX1 yX1_hasSlot yX1_hasSlot, Cond.code yX1_hasSlot cX1_hasSlot 2 (some .boolean), Cond.methodLink RX6 276 yJ6_bitCount_0f7a4, Cond.static yJ6_bitCount_0f7a4]
def wsX6_count_r7 : List Cond := [Cond.initialized RJ6, Cond.code yJ6_bitCount_0f7a4 cJ6_bitCount_0f7a4 1 (some .int), Cond.constant RJ6 265 (1431655765), Cond.constant RJ6 266 (858993459), Cond.constant RJ6 267 (252645135), Cond.methodLink RX6 108 yX6_oneIf, Cond.static yX6_oneIf, Cond.code yX6_oneIf cX6_oneIf 1 (some .int), Cond.methodLink RX6 291 yX4_slopesAreSame, Cond.instanceMethod yX4_slopesAreSame, Cond.selects RX4 yX4_slopesAreSame yX4_slopesAreSame, Cond.code yX4_slopesAreSame cX4_slopesAreSame 2 (some .boolean), Cond.methodLink RX6 208 yX4_lightOnScreen, Cond.instanceMethod yX4_lightOnScreen, Cond.selects RX4 yX4_lightOnScreen yX4_lightOnScreen, Cond.code yX4_lightOnScreen cX4_lightOnScreen 4 (some .int), Cond.fieldLink RX4 78 "JoinedLight$Bench" "lights" "[I", Cond.methodLink RX6 150 yX4_lightLostAt, Cond.instanceMethod yX4_lightLostAt, Cond.selects RX4 yX4_lightLostAt yX4_lightLostAt, Cond.code yX4_lightLostAt cX4_lightLostAt 5 (some .int)]
def wsX6_count : List Cond := .code yX6_count cX6_count 2 (some .int) :: ((wsX6_count_r1 ++ (wsX6_count_r2 ++ (wsX6_count_r3 ++ (wsX6_count_r4 ++ (wsX6_count_r5 ++ (wsX6_count_r6 ++ wsX6_count_r7)))))) ++ wsX60 ++ wsX00 ++ wsX30 ++ wsX50 ++ wsX10 ++ wsX40)
def wsX6_undo_r1 : List Cond := [Cond.fieldLink RX6 43 "JoinedLight" "history" "LJoinedLight$History;", Cond.fieldLink RX6 10 "JoinedLight" "bench" "LJoinedLight$Bench;", Cond.fieldLink RX6 222 "JoinedLight$History" "states" "I", Cond.constant RX6 199 (-1000000002), Cond.methodLink RX6 234 yX3_takeLatest, Cond.instanceMethod yX3_takeLatest, Cond.selects RX3 yX3_takeLatest yX3_takeLatest, Cond.initialized RX3, Cond.code yX3_takeLatest cX3_takeLatest 4 (some .boolean), Cond.fieldLink RX3 17 "JoinedLight$History" "states" "I", Cond.fieldLink RX3 11 "JoinedLight$History" "rooms" "[LJoinedLight$Bench;", Cond.methodLink RX3 25 yX0_copyFrom, Cond.instanceMethod yX0_copyFrom, Cond.selects RX0 yX0_copyFrom yX0_copyFrom, Cond.initialized RX0, Cond.code yX0_copyFrom cX0_copyFrom 2 none, Cond.fieldLink RX0 9 "JoinedLight$Bench" "colours" "[I", Cond.methodLink RX0 43 arraycopyName, Cond.native arraycopyName, Cond.static arraycopyName, Cond.initialized "java/lang/System", Cond.fieldLink RX0 15 "JoinedLight$Bench" "lights" "[I", Cond.fieldLink RX0 18 "JoinedLight$Bench" "lineCount" "I", Cond.fieldLink RX0 22 "JoinedLight$Bench" "places" "[I"]
def wsX6_undo_r2 : List Cond := [Cond.fieldLink RX0 25 "JoinedLight$Bench" "kinds" "[I", Cond.fieldLink RX0 28 "JoinedLight$Bench" "firsts" "[I", Cond.fieldLink RX0 31 "JoinedLight$Bench" "seconds" "[I", Cond.fieldLink RX0 34 "JoinedLight$Bench" "turns" "[I", Cond.fieldLink RX0 37 "JoinedLight$Bench" "thingCount" "I", Cond.fieldLink RX0 40 "JoinedLight$Bench" "cellWidth" "I"]
def wsX6_undo : List Cond := .code yX6_undo cX6_undo 1 (some .int) :: ((wsX6_undo_r1 ++ wsX6_undo_r2) ++ wsX60 ++ wsX30 ++ wsX00)
def wsX6_type : List Cond := .code yX6_type cX6_type 2 (some .int) :: ([.constant RX6 94 (-1000000001), .fieldLink RX6 50 "JoinedLight" "text" "LJoinedLight$Text;", .fieldLink RX6 225 "JoinedLight$Text" "length" "I", .constant RX6 242 (-1000000003), .methodLink RX6 90 yX6_within, .static yX6_within, .initialized RX6, .code yX6_within cX6_within 3 (some .boolean), .methodLink RX6 238 yX5_append, .instanceMethod yX5_append, .selects RX5 yX5_append yX5_append, .initialized RX5, .code yX5_append cX5_append 2 (some .boolean), .fieldLink RX5 15 "JoinedLight$Text" "length" "I", .fieldLink RX5 9 "JoinedLight$Text" "signs" "[C"] ++ wsX60 ++ wsX50)
def wsX6_clearText : List Cond := .code yX6_clearText cX6_clearText 2 (some .int) :: ([.fieldLink RX6 50 "JoinedLight" "text" "LJoinedLight$Text;", .fieldLink RX6 225 "JoinedLight$Text" "length" "I"] ++ wsX60 ++ wsX50)
def wsX6_noteFault : List Cond := .code yX6_noteFault cX6_noteFault 4 none :: ([.fieldLink RX6 249 "JoinedLight" "faultPosition" "I", .fieldLink RX6 246 "JoinedLight" "faultReason" "I", .fieldLink RX6 252 "JoinedLight" "faultCause" "I"] ++ wsX60)
def wsX6_doOrder_r1 : List Cond := [Cond.fieldLink RX6 50 "JoinedLight" "text" "LJoinedLight$Text;", Cond.fieldLink RX6 310 "JoinedLight$Text" "numbers" "[I", Cond.fieldLink RX6 311 "JoinedLight$Text" "letter" "C", Cond.fieldLink RX6 16 "JoinedLight" "trial" "LJoinedLight$Bench;", Cond.methodLink RX6 58 yX0_addLine, Cond.instanceMethod yX0_addLine, Cond.selects RX0 yX0_addLine yX0_addLine, Cond.initialized RX0, Cond.code yX0_addLine cX0_addLine 4 (some .int), Cond.constant RX0 66 (-1000000001), Cond.fieldLink RX0 18 "JoinedLight$Bench" "lineCount" "I", Cond.constant RX0 67 (-1000000003), Cond.fieldLink RX0 9 "JoinedLight$Bench" "colours" "[I", Cond.fieldLink RX0 15 "JoinedLight$Bench" "lights" "[I", Cond.static yX6_within, Cond.initialized RX6, Cond.code yX6_within cX6_within 3 (some .boolean), Cond.methodLink RX6 69 yX0_addPrism, Cond.instanceMethod yX0_addPrism, Cond.selects RX0 yX0_addPrism yX0_addPrism, Cond.code yX0_addPrism cX0_addPrism 6 (some .int), Cond.methodLink RX0 68 yX0_addThing, Cond.instanceMethod yX0_addThing, Cond.selects RX0 yX0_addThing yX0_addThing]
def wsX6_doOrder_r2 : List Cond := [Cond.code yX0_addThing cX0_addThing 8 (some .int), Cond.constant RX0 76 (-1000000002), Cond.fieldLink RX0 37 "JoinedLight$Bench" "thingCount" "I", Cond.fieldLink RX0 22 "JoinedLight$Bench" "places" "[I", Cond.fieldLink RX0 25 "JoinedLight$Bench" "kinds" "[I", Cond.fieldLink RX0 28 "JoinedLight$Bench" "firsts" "[I", Cond.fieldLink RX0 31 "JoinedLight$Bench" "seconds" "[I", Cond.fieldLink RX0 34 "JoinedLight$Bench" "turns" "[I", Cond.methodLink RX0 72 yX0_indexOf, Cond.instanceMethod yX0_indexOf, Cond.selects RX0 yX0_indexOf yX0_indexOf, Cond.code yX0_indexOf cX0_indexOf 3 (some .int), Cond.methodLink RX0 49 yX0_hasThing, Cond.instanceMethod yX0_hasThing, Cond.selects RX0 yX0_hasThing yX0_hasThing, Cond.code yX0_hasThing cX0_hasThing 2 (some .boolean), Cond.methodLink RX0 77 yX0_thingsAhead, Cond.instanceMethod yX0_thingsAhead, Cond.selects RX0 yX0_thingsAhead yX0_thingsAhead, Cond.code yX0_thingsAhead cX0_thingsAhead 3 (some .int), Cond.methodLink RX0 80 yX0_copyThing, Cond.instanceMethod yX0_copyThing, Cond.selects RX0 yX0_copyThing yX0_copyThing, Cond.code yX0_copyThing cX0_copyThing 3 none]
def wsX6_doOrder_r3 : List Cond := [Cond.methodLink RX6 73 yX0_addSlit, Cond.instanceMethod yX0_addSlit, Cond.selects RX0 yX0_addSlit yX0_addSlit, Cond.code yX0_addSlit cX0_addSlit 5 (some .int), Cond.methodLink RX6 77 yX0_removeThing, Cond.instanceMethod yX0_removeThing, Cond.selects RX0 yX0_removeThing yX0_removeThing, Cond.code yX0_removeThing cX0_removeThing 4 (some .int)]
def wsX6_doOrder : List Cond := .code yX6_doOrder cX6_doOrder 4 (some .int) :: ((wsX6_doOrder_r1 ++ (wsX6_doOrder_r2 ++ wsX6_doOrder_r3)) ++ wsX60 ++ wsX50 ++ wsX00)
def wsX6_tryText_r1 : List Cond := [Cond.fieldLink RX6 16 "JoinedLight" "trial" "LJoinedLight$Bench;", Cond.fieldLink RX6 10 "JoinedLight" "bench" "LJoinedLight$Bench;", Cond.fieldLink RX6 246 "JoinedLight" "faultReason" "I", Cond.fieldLink RX6 255 "JoinedLight" "ordersDone" "I", Cond.fieldLink RX6 50 "JoinedLight" "text" "LJoinedLight$Text;", Cond.fieldLink RX6 225 "JoinedLight$Text" "length" "I", Cond.fieldLink RX6 301 "JoinedLight$Text" "next" "I", Cond.methodLink RX6 54 yX0_copyFrom, Cond.instanceMethod yX0_copyFrom, Cond.selects RX0 yX0_copyFrom yX0_copyFrom, Cond.initialized RX0, Cond.code yX0_copyFrom cX0_copyFrom 2 none, Cond.fieldLink RX0 9 "JoinedLight$Bench" "colours" "[I", Cond.methodLink RX0 43 arraycopyName, Cond.native arraycopyName, Cond.static arraycopyName, Cond.initialized "java/lang/System", Cond.fieldLink RX0 15 "JoinedLight$Bench" "lights" "[I", Cond.fieldLink RX0 18 "JoinedLight$Bench" "lineCount" "I", Cond.fieldLink RX0 22 "JoinedLight$Bench" "places" "[I", Cond.fieldLink RX0 25 "JoinedLight$Bench" "kinds" "[I", Cond.fieldLink RX0 28 "JoinedLight$Bench" "firsts" "[I", Cond.fieldLink RX0 31 "JoinedLight$Bench" "seconds" "[I", Cond.fieldLink RX0 34 "JoinedLight$Bench" "turns" "[I"]
def wsX6_tryText_r2 : List Cond := [Cond.fieldLink RX0 37 "JoinedLight$Bench" "thingCount" "I", Cond.fieldLink RX0 40 "JoinedLight$Bench" "cellWidth" "I", Cond.methodLink RX6 298 yX5_readOrder, Cond.instanceMethod yX5_readOrder, Cond.selects RX5 yX5_readOrder yX5_readOrder, Cond.initialized RX5, Cond.code yX5_readOrder cX5_readOrder 4 (some .boolean), Cond.fieldLink RX5 27 "JoinedLight$Text" "next" "I", Cond.fieldLink RX5 19 "JoinedLight$Text" "letter" "C", Cond.methodLink RX5 30 yX5_signAt, Cond.instanceMethod yX5_signAt, Cond.selects RX5 yX5_signAt yX5_signAt, Cond.code yX5_signAt cX5_signAt 2 (some .char), Cond.fieldLink RX5 15 "JoinedLight$Text" "length" "I", Cond.fieldLink RX5 9 "JoinedLight$Text" "signs" "[C", Cond.methodLink RX5 34 yX5_numbersOf, Cond.static yX5_numbersOf, Cond.code yX5_numbersOf cX5_numbersOf 1 (some .int), Cond.methodLink RX5 38 yX5_readNumber, Cond.instanceMethod yX5_readNumber, Cond.selects RX5 yX5_readNumber yX5_readNumber, Cond.code yX5_readNumber cX5_readNumber 4 (some .boolean), Cond.fieldLink RX5 23 "JoinedLight$Text" "numbers" "[I", Cond.static yX6_within]
def wsX6_tryText_r3 : List Cond := [Cond.initialized RX6, Cond.code yX6_within cX6_within 3 (some .boolean), Cond.methodLink RX5 42 yX5_readSign, Cond.instanceMethod yX5_readSign, Cond.selects RX5 yX5_readSign yX5_readSign, Cond.code yX5_readSign cX5_readSign 2 (some .boolean), Cond.methodLink RX6 304 yX6_noteFault, Cond.instanceMethod yX6_noteFault, Cond.selects RX6 yX6_noteFault yX6_noteFault, Cond.code yX6_noteFault cX6_noteFault 4 none, Cond.fieldLink RX6 249 "JoinedLight" "faultPosition" "I", Cond.fieldLink RX6 252 "JoinedLight" "faultCause" "I", Cond.methodLink RX6 307 yX6_doOrder, Cond.instanceMethod yX6_doOrder, Cond.selects RX6 yX6_doOrder yX6_doOrder, Cond.code yX6_doOrder cX6_doOrder 4 (some .int), Cond.fieldLink RX6 310 "JoinedLight$Text" "numbers" "[I", Cond.fieldLink RX6 311 "JoinedLight$Text" "letter" "C", Cond.methodLink RX6 58 yX0_addLine, Cond.instanceMethod yX0_addLine, Cond.selects RX0 yX0_addLine yX0_addLine, Cond.code yX0_addLine cX0_addLine 4 (some .int), Cond.constant RX0 66 (-1000000001), Cond.constant RX0 67 (-1000000003)]
def wsX6_tryText_r4 : List Cond := [Cond.methodLink RX6 69 yX0_addPrism, Cond.instanceMethod yX0_addPrism, Cond.selects RX0 yX0_addPrism yX0_addPrism, Cond.code yX0_addPrism cX0_addPrism 6 (some .int), Cond.methodLink RX0 68 yX0_addThing, Cond.instanceMethod yX0_addThing, Cond.selects RX0 yX0_addThing yX0_addThing, Cond.code yX0_addThing cX0_addThing 8 (some .int), Cond.constant RX0 76 (-1000000002), Cond.methodLink RX0 72 yX0_indexOf, Cond.instanceMethod yX0_indexOf, Cond.selects RX0 yX0_indexOf yX0_indexOf, Cond.code yX0_indexOf cX0_indexOf 3 (some .int), Cond.methodLink RX0 49 yX0_hasThing, Cond.instanceMethod yX0_hasThing, Cond.selects RX0 yX0_hasThing yX0_hasThing, Cond.code yX0_hasThing cX0_hasThing 2 (some .boolean), Cond.methodLink RX0 77 yX0_thingsAhead, Cond.instanceMethod yX0_thingsAhead, Cond.selects RX0 yX0_thingsAhead yX0_thingsAhead, Cond.code yX0_thingsAhead cX0_thingsAhead 3 (some .int), Cond.methodLink RX0 80 yX0_copyThing, Cond.instanceMethod yX0_copyThing, Cond.selects RX0 yX0_copyThing yX0_copyThing]
def wsX6_tryText_r5 : List Cond := [Cond.code yX0_copyThing cX0_copyThing 3 none, Cond.methodLink RX6 73 yX0_addSlit, Cond.instanceMethod yX0_addSlit, Cond.selects RX0 yX0_addSlit yX0_addSlit, Cond.code yX0_addSlit cX0_addSlit 5 (some .int), Cond.methodLink RX6 77 yX0_removeThing, Cond.instanceMethod yX0_removeThing, Cond.selects RX0 yX0_removeThing yX0_removeThing, Cond.code yX0_removeThing cX0_removeThing 4 (some .int)]
def wsX6_tryText : List Cond := .code yX6_tryText cX6_tryText 3 none :: ((wsX6_tryText_r1 ++ (wsX6_tryText_r2 ++ (wsX6_tryText_r3 ++ (wsX6_tryText_r4 ++ wsX6_tryText_r5)))) ++ wsX60 ++ wsX50 ++ wsX00)
def wsX6_fault_r1 : List Cond := [Cond.constant RX6 94 (-1000000001), Cond.fieldLink RX6 246 "JoinedLight" "faultReason" "I", Cond.constant RX6 115 (-1000000004), Cond.fieldLink RX6 249 "JoinedLight" "faultPosition" "I", Cond.fieldLink RX6 252 "JoinedLight" "faultCause" "I", Cond.methodLink RX6 90 yX6_within, Cond.static yX6_within, Cond.initialized RX6, Cond.code yX6_within cX6_within 3 (some .boolean), Cond.methodLink RX6 243 yX6_tryText, Cond.instanceMethod yX6_tryText, Cond.selects RX6 yX6_tryText yX6_tryText, Cond.code yX6_tryText cX6_tryText 3 none, Cond.fieldLink RX6 16 "JoinedLight" "trial" "LJoinedLight$Bench;", Cond.fieldLink RX6 10 "JoinedLight" "bench" "LJoinedLight$Bench;", Cond.fieldLink RX6 255 "JoinedLight" "ordersDone" "I", Cond.fieldLink RX6 50 "JoinedLight" "text" "LJoinedLight$Text;", Cond.fieldLink RX6 225 "JoinedLight$Text" "length" "I", Cond.fieldLink RX6 301 "JoinedLight$Text" "next" "I", Cond.methodLink RX6 54 yX0_copyFrom, Cond.instanceMethod yX0_copyFrom, Cond.selects RX0 yX0_copyFrom yX0_copyFrom, Cond.initialized RX0, Cond.code yX0_copyFrom cX0_copyFrom 2 none]
def wsX6_fault_r2 : List Cond := [Cond.fieldLink RX0 9 "JoinedLight$Bench" "colours" "[I", Cond.methodLink RX0 43 arraycopyName, Cond.native arraycopyName, Cond.static arraycopyName, Cond.initialized "java/lang/System", Cond.fieldLink RX0 15 "JoinedLight$Bench" "lights" "[I", Cond.fieldLink RX0 18 "JoinedLight$Bench" "lineCount" "I", Cond.fieldLink RX0 22 "JoinedLight$Bench" "places" "[I", Cond.fieldLink RX0 25 "JoinedLight$Bench" "kinds" "[I", Cond.fieldLink RX0 28 "JoinedLight$Bench" "firsts" "[I", Cond.fieldLink RX0 31 "JoinedLight$Bench" "seconds" "[I", Cond.fieldLink RX0 34 "JoinedLight$Bench" "turns" "[I", Cond.fieldLink RX0 37 "JoinedLight$Bench" "thingCount" "I", Cond.fieldLink RX0 40 "JoinedLight$Bench" "cellWidth" "I", Cond.methodLink RX6 298 yX5_readOrder, Cond.instanceMethod yX5_readOrder, Cond.selects RX5 yX5_readOrder yX5_readOrder, Cond.initialized RX5, Cond.code yX5_readOrder cX5_readOrder 4 (some .boolean), Cond.fieldLink RX5 27 "JoinedLight$Text" "next" "I", Cond.fieldLink RX5 19 "JoinedLight$Text" "letter" "C", Cond.methodLink RX5 30 yX5_signAt, Cond.instanceMethod yX5_signAt, Cond.selects RX5 yX5_signAt yX5_signAt]
def wsX6_fault_r3 : List Cond := [Cond.code yX5_signAt cX5_signAt 2 (some .char), Cond.fieldLink RX5 15 "JoinedLight$Text" "length" "I", Cond.fieldLink RX5 9 "JoinedLight$Text" "signs" "[C", Cond.methodLink RX5 34 yX5_numbersOf, Cond.static yX5_numbersOf, Cond.code yX5_numbersOf cX5_numbersOf 1 (some .int), Cond.methodLink RX5 38 yX5_readNumber, Cond.instanceMethod yX5_readNumber, Cond.selects RX5 yX5_readNumber yX5_readNumber, Cond.code yX5_readNumber cX5_readNumber 4 (some .boolean), Cond.fieldLink RX5 23 "JoinedLight$Text" "numbers" "[I", Cond.methodLink RX5 42 yX5_readSign, Cond.instanceMethod yX5_readSign, Cond.selects RX5 yX5_readSign yX5_readSign, Cond.code yX5_readSign cX5_readSign 2 (some .boolean), Cond.methodLink RX6 304 yX6_noteFault, Cond.instanceMethod yX6_noteFault, Cond.selects RX6 yX6_noteFault yX6_noteFault, Cond.code yX6_noteFault cX6_noteFault 4 none, Cond.methodLink RX6 307 yX6_doOrder, Cond.instanceMethod yX6_doOrder, Cond.selects RX6 yX6_doOrder yX6_doOrder, Cond.code yX6_doOrder cX6_doOrder 4 (some .int), Cond.fieldLink RX6 310 "JoinedLight$Text" "numbers" "[I"]
def wsX6_fault_r4 : List Cond := [Cond.fieldLink RX6 311 "JoinedLight$Text" "letter" "C", Cond.methodLink RX6 58 yX0_addLine, Cond.instanceMethod yX0_addLine, Cond.selects RX0 yX0_addLine yX0_addLine, Cond.code yX0_addLine cX0_addLine 4 (some .int), Cond.constant RX0 66 (-1000000001), Cond.constant RX0 67 (-1000000003), Cond.methodLink RX6 69 yX0_addPrism, Cond.instanceMethod yX0_addPrism, Cond.selects RX0 yX0_addPrism yX0_addPrism, Cond.code yX0_addPrism cX0_addPrism 6 (some .int), Cond.methodLink RX0 68 yX0_addThing, Cond.instanceMethod yX0_addThing, Cond.selects RX0 yX0_addThing yX0_addThing, Cond.code yX0_addThing cX0_addThing 8 (some .int), Cond.constant RX0 76 (-1000000002), Cond.methodLink RX0 72 yX0_indexOf, Cond.instanceMethod yX0_indexOf, Cond.selects RX0 yX0_indexOf yX0_indexOf, Cond.code yX0_indexOf cX0_indexOf 3 (some .int), Cond.methodLink RX0 49 yX0_hasThing, Cond.instanceMethod yX0_hasThing, Cond.selects RX0 yX0_hasThing yX0_hasThing, Cond.code yX0_hasThing cX0_hasThing 2 (some .boolean)]
def wsX6_fault_r5 : List Cond := [Cond.methodLink RX0 77 yX0_thingsAhead, Cond.instanceMethod yX0_thingsAhead, Cond.selects RX0 yX0_thingsAhead yX0_thingsAhead, Cond.code yX0_thingsAhead cX0_thingsAhead 3 (some .int), Cond.methodLink RX0 80 yX0_copyThing, Cond.instanceMethod yX0_copyThing, Cond.selects RX0 yX0_copyThing yX0_copyThing, Cond.code yX0_copyThing cX0_copyThing 3 none, Cond.methodLink RX6 73 yX0_addSlit, Cond.instanceMethod yX0_addSlit, Cond.selects RX0 yX0_addSlit yX0_addSlit, Cond.code yX0_addSlit cX0_addSlit 5 (some .int), Cond.methodLink RX6 77 yX0_removeThing, Cond.instanceMethod yX0_removeThing, Cond.selects RX0 yX0_removeThing yX0_removeThing, Cond.code yX0_removeThing cX0_removeThing 4 (some .int)]
def wsX6_fault : List Cond := .code yX6_fault cX6_fault 2 (some .int) :: ((wsX6_fault_r1 ++ (wsX6_fault_r2 ++ (wsX6_fault_r3 ++ (wsX6_fault_r4 ++ wsX6_fault_r5)))) ++ wsX60 ++ wsX50 ++ wsX00)
def wsX6_play_r1 : List Cond := [Cond.fieldLink RX6 246 "JoinedLight" "faultReason" "I", Cond.fieldLink RX6 255 "JoinedLight" "ordersDone" "I", Cond.constant RX6 199 (-1000000002), Cond.methodLink RX6 243 yX6_tryText, Cond.instanceMethod yX6_tryText, Cond.selects RX6 yX6_tryText yX6_tryText, Cond.initialized RX6, Cond.code yX6_tryText cX6_tryText 3 none, Cond.fieldLink RX6 16 "JoinedLight" "trial" "LJoinedLight$Bench;", Cond.fieldLink RX6 10 "JoinedLight" "bench" "LJoinedLight$Bench;", Cond.fieldLink RX6 50 "JoinedLight" "text" "LJoinedLight$Text;", Cond.fieldLink RX6 225 "JoinedLight$Text" "length" "I", Cond.fieldLink RX6 301 "JoinedLight$Text" "next" "I", Cond.methodLink RX6 54 yX0_copyFrom, Cond.instanceMethod yX0_copyFrom, Cond.selects RX0 yX0_copyFrom yX0_copyFrom, Cond.initialized RX0, Cond.code yX0_copyFrom cX0_copyFrom 2 none, Cond.fieldLink RX0 9 "JoinedLight$Bench" "colours" "[I", Cond.methodLink RX0 43 arraycopyName, Cond.native arraycopyName, Cond.static arraycopyName, Cond.initialized "java/lang/System", Cond.fieldLink RX0 15 "JoinedLight$Bench" "lights" "[I"]
def wsX6_play_r2 : List Cond := [Cond.fieldLink RX0 18 "JoinedLight$Bench" "lineCount" "I", Cond.fieldLink RX0 22 "JoinedLight$Bench" "places" "[I", Cond.fieldLink RX0 25 "JoinedLight$Bench" "kinds" "[I", Cond.fieldLink RX0 28 "JoinedLight$Bench" "firsts" "[I", Cond.fieldLink RX0 31 "JoinedLight$Bench" "seconds" "[I", Cond.fieldLink RX0 34 "JoinedLight$Bench" "turns" "[I", Cond.fieldLink RX0 37 "JoinedLight$Bench" "thingCount" "I", Cond.fieldLink RX0 40 "JoinedLight$Bench" "cellWidth" "I", Cond.methodLink RX6 298 yX5_readOrder, Cond.instanceMethod yX5_readOrder, Cond.selects RX5 yX5_readOrder yX5_readOrder, Cond.initialized RX5, Cond.code yX5_readOrder cX5_readOrder 4 (some .boolean), Cond.fieldLink RX5 27 "JoinedLight$Text" "next" "I", Cond.fieldLink RX5 19 "JoinedLight$Text" "letter" "C", Cond.methodLink RX5 30 yX5_signAt, Cond.instanceMethod yX5_signAt, Cond.selects RX5 yX5_signAt yX5_signAt, Cond.code yX5_signAt cX5_signAt 2 (some .char), Cond.fieldLink RX5 15 "JoinedLight$Text" "length" "I", Cond.fieldLink RX5 9 "JoinedLight$Text" "signs" "[C", Cond.methodLink RX5 34 yX5_numbersOf, Cond.static yX5_numbersOf, Cond.code yX5_numbersOf cX5_numbersOf 1 (some .int)]
def wsX6_play_r3 : List Cond := [Cond.methodLink RX5 38 yX5_readNumber, Cond.instanceMethod yX5_readNumber, Cond.selects RX5 yX5_readNumber yX5_readNumber, Cond.code yX5_readNumber cX5_readNumber 4 (some .boolean), Cond.fieldLink RX5 23 "JoinedLight$Text" "numbers" "[I", Cond.static yX6_within, Cond.code yX6_within cX6_within 3 (some .boolean), Cond.methodLink RX5 42 yX5_readSign, Cond.instanceMethod yX5_readSign, Cond.selects RX5 yX5_readSign yX5_readSign, Cond.code yX5_readSign cX5_readSign 2 (some .boolean), Cond.methodLink RX6 304 yX6_noteFault, Cond.instanceMethod yX6_noteFault, Cond.selects RX6 yX6_noteFault yX6_noteFault, Cond.code yX6_noteFault cX6_noteFault 4 none, Cond.fieldLink RX6 249 "JoinedLight" "faultPosition" "I", Cond.fieldLink RX6 252 "JoinedLight" "faultCause" "I", Cond.methodLink RX6 307 yX6_doOrder, Cond.instanceMethod yX6_doOrder, Cond.selects RX6 yX6_doOrder yX6_doOrder, Cond.code yX6_doOrder cX6_doOrder 4 (some .int), Cond.fieldLink RX6 310 "JoinedLight$Text" "numbers" "[I", Cond.fieldLink RX6 311 "JoinedLight$Text" "letter" "C", Cond.methodLink RX6 58 yX0_addLine]
def wsX6_play_r4 : List Cond := [Cond.instanceMethod yX0_addLine, Cond.selects RX0 yX0_addLine yX0_addLine, Cond.code yX0_addLine cX0_addLine 4 (some .int), Cond.constant RX0 66 (-1000000001), Cond.constant RX0 67 (-1000000003), Cond.methodLink RX6 69 yX0_addPrism, Cond.instanceMethod yX0_addPrism, Cond.selects RX0 yX0_addPrism yX0_addPrism, Cond.code yX0_addPrism cX0_addPrism 6 (some .int), Cond.methodLink RX0 68 yX0_addThing, Cond.instanceMethod yX0_addThing, Cond.selects RX0 yX0_addThing yX0_addThing, Cond.code yX0_addThing cX0_addThing 8 (some .int), Cond.constant RX0 76 (-1000000002), Cond.methodLink RX0 72 yX0_indexOf, Cond.instanceMethod yX0_indexOf, Cond.selects RX0 yX0_indexOf yX0_indexOf, Cond.code yX0_indexOf cX0_indexOf 3 (some .int), Cond.methodLink RX0 49 yX0_hasThing, Cond.instanceMethod yX0_hasThing, Cond.selects RX0 yX0_hasThing yX0_hasThing, Cond.code yX0_hasThing cX0_hasThing 2 (some .boolean), Cond.methodLink RX0 77 yX0_thingsAhead, Cond.instanceMethod yX0_thingsAhead]
def wsX6_play_r5 : List Cond := [Cond.selects RX0 yX0_thingsAhead yX0_thingsAhead, Cond.code yX0_thingsAhead cX0_thingsAhead 3 (some .int), Cond.methodLink RX0 80 yX0_copyThing, Cond.instanceMethod yX0_copyThing, Cond.selects RX0 yX0_copyThing yX0_copyThing, Cond.code yX0_copyThing cX0_copyThing 3 none, Cond.methodLink RX6 73 yX0_addSlit, Cond.instanceMethod yX0_addSlit, Cond.selects RX0 yX0_addSlit yX0_addSlit, Cond.code yX0_addSlit cX0_addSlit 5 (some .int), Cond.methodLink RX6 77 yX0_removeThing, Cond.instanceMethod yX0_removeThing, Cond.selects RX0 yX0_removeThing yX0_removeThing, Cond.code yX0_removeThing cX0_removeThing 4 (some .int), Cond.methodLink RX6 62 yX6_keepTrial, Cond.instanceMethod yX6_keepTrial, Cond.selects RX6 yX6_keepTrial yX6_keepTrial, Cond.code yX6_keepTrial cX6_keepTrial 2 (some .int), Cond.fieldLink RX6 43 "JoinedLight" "history" "LJoinedLight$History;", Cond.methodLink RX6 263 yX3_record, Cond.instanceMethod yX3_record, Cond.selects RX3 yX3_record yX3_record, Cond.initialized RX3, Cond.code yX3_record cX3_record 3 none]
def wsX6_play_r6 : List Cond := [Cond.fieldLink RX3 17 "JoinedLight$History" "states" "I", Cond.fieldLink RX3 11 "JoinedLight$History" "rooms" "[LJoinedLight$Bench;", Cond.classLink RX3 9 RX0, Cond.instantiable RX0 10, Cond.methodLink RX3 21 yX3_dropOldest, Cond.instanceMethod yX3_dropOldest, Cond.selects RX3 yX3_dropOldest yX3_dropOldest, Cond.code yX3_dropOldest cX3_dropOldest 3 none, Cond.instanceMethod yX0_init, Cond.code yX0_init cX0_init 1 none, Cond.methodLink RX0 3 objectInit, Cond.instanceMethod objectInit, Cond.code objectInit ⟨#[0xb1]⟩ 1 none, Cond.arrayClass .int, Cond.methodLink RX3 25 yX0_copyFrom]
def wsX6_play : List Cond := .code yX6_play cX6_play 1 (some .int) :: ((wsX6_play_r1 ++ (wsX6_play_r2 ++ (wsX6_play_r3 ++ (wsX6_play_r4 ++ (wsX6_play_r5 ++ wsX6_play_r6))))) ++ wsX60 ++ wsX50 ++ wsX00 ++ wsX30)
def wsX7_init : List Cond := .code yX7_init cX7_init 1 none :: ([.methodLink RX7 1 objectInit, .instanceMethod objectInit, .code objectInit ⟨#[0xb1]⟩ 1 none, .arrayClass .int, .fieldLink RX7 7 "JoinedLightModel" "s" "[I", .fieldLink RX7 13 "JoinedLightModel" "past" "[I", .fieldLink RX7 16 "JoinedLightModel" "held" "[I", .fieldLink RX7 19 "JoinedLightModel" "tried" "[I", .fieldLink RX7 22 "JoinedLightModel" "text" "[I", .fieldLink RX7 25 "JoinedLightModel" "cells" "[I", .fieldLink RX7 28 "JoinedLightModel" "sets" "[I", .fieldLink RX7 31 "JoinedLightModel" "told" "[I"] ++ wsX70)
def wsX7_in : List Cond := .code yX7_in cX7_in 3 (some .boolean) :: ([])
def wsX7_floor : List Cond := .code yX7_floor cX7_floor 2 (some .int) :: ([])
def wsX7_copies : List Cond := .code yX7_copies cX7_copies 3 none :: ([])
def wsX7_changes : List Cond := .code yX7_changes cX7_changes 2 none :: ([.fieldLink RX7 34 "JoinedLightModel" "runs" "Z", .fieldLink RX7 38 "JoinedLightModel" "pasts" "I", .fieldLink RX7 13 "JoinedLightModel" "past" "[I", .fieldLink RX7 7 "JoinedLightModel" "s" "[I"] ++ wsX70)
def wsX7_ones : List Cond := .code yX7_ones cX7_ones 3 (some .int) :: ([])
def wsX7_isLine : List Cond := .code yX7_isLine cX7_isLine 2 (some .boolean) :: ([.fieldLink RX7 7 "JoinedLightModel" "s" "[I"] ++ wsX70)
def wsX7_colour : List Cond := .code yX7_colour cX7_colour 2 (some .int) :: ([.fieldLink RX7 7 "JoinedLightModel" "s" "[I"] ++ wsX70)
def wsX7_lightOf : List Cond := .code yX7_lightOf cX7_lightOf 2 (some .int) :: ([.fieldLink RX7 7 "JoinedLightModel" "s" "[I"] ++ wsX70)
def wsX7_of : List Cond := .code yX7_of cX7_of 3 (some .int) :: ([.fieldLink RX7 7 "JoinedLightModel" "s" "[I"] ++ wsX70)
def wsX7_at : List Cond := .code yX7_at cX7_at 3 (some .int) :: ([.fieldLink RX7 7 "JoinedLightModel" "s" "[I", .constant RX7 46 (-1000000004), .methodLink RX7 42 yX7_of, .instanceMethod yX7_of, .selects RX7 yX7_of yX7_of, .initialized RX7, .code yX7_of cX7_of 3 (some .int)] ++ wsX70)
def wsX7_line : List Cond := .code yX7_line cX7_line 4 (some .int) :: ([.constant RX7 51 (-1000000001), .fieldLink RX7 7 "JoinedLightModel" "s" "[I", .constant RX7 52 (-1000000003), .methodLink RX7 47 yX7_in, .static yX7_in, .initialized RX7, .code yX7_in cX7_in 3 (some .boolean), .methodLink RX7 53 yX7_changes, .instanceMethod yX7_changes, .selects RX7 yX7_changes yX7_changes, .code yX7_changes cX7_changes 2 none, .fieldLink RX7 34 "JoinedLightModel" "runs" "Z", .fieldLink RX7 38 "JoinedLightModel" "pasts" "I", .fieldLink RX7 13 "JoinedLightModel" "past" "[I"] ++ wsX70)
def wsX7_dim : List Cond := .code yX7_dim cX7_dim 4 (some .int) :: ([.constant RX7 51 (-1000000001), .fieldLink RX7 7 "JoinedLightModel" "s" "[I", .methodLink RX7 56 yX7_isLine, .instanceMethod yX7_isLine, .selects RX7 yX7_isLine yX7_isLine, .initialized RX7, .code yX7_isLine cX7_isLine 2 (some .boolean), .methodLink RX7 47 yX7_in, .static yX7_in, .code yX7_in cX7_in 3 (some .boolean), .methodLink RX7 53 yX7_changes, .instanceMethod yX7_changes, .selects RX7 yX7_changes yX7_changes, .code yX7_changes cX7_changes 2 none, .fieldLink RX7 34 "JoinedLightModel" "runs" "Z", .fieldLink RX7 38 "JoinedLightModel" "pasts" "I", .fieldLink RX7 13 "JoinedLightModel" "past" "[I", .methodLink RX7 60 yX7_lightOf, .instanceMethod yX7_lightOf, .selects RX7 yX7_lightOf yX7_lightOf, .code yX7_lightOf cX7_lightOf 2 (some .int)] ++ wsX70)
def wsX7_opens : List Cond := .code yX7_opens cX7_opens 4 (some .int) :: ([.fieldLink RX7 7 "JoinedLightModel" "s" "[I", .methodLink RX7 42 yX7_of, .instanceMethod yX7_of, .selects RX7 yX7_of yX7_of, .initialized RX7, .code yX7_of cX7_of 3 (some .int)] ++ wsX70)
def wsX7_takesOut : List Cond := .code yX7_takesOut cX7_takesOut 3 none :: ([.fieldLink RX7 7 "JoinedLightModel" "s" "[I"] ++ wsX70)
def wsX7_sets : List Cond := .code yX7_sets cX7_sets 7 none :: ([.fieldLink RX7 7 "JoinedLightModel" "s" "[I"] ++ wsX70)
def wsX7_lays_r1 : List Cond := [Cond.constant RX7 67 (-1000000002), Cond.fieldLink RX7 7 "JoinedLightModel" "s" "[I", Cond.constant RX7 52 (-1000000003), Cond.methodLink RX7 64 yX7_at, Cond.instanceMethod yX7_at, Cond.selects RX7 yX7_at yX7_at, Cond.initialized RX7, Cond.code yX7_at cX7_at 3 (some .int), Cond.constant RX7 46 (-1000000004), Cond.methodLink RX7 42 yX7_of, Cond.instanceMethod yX7_of, Cond.selects RX7 yX7_of yX7_of, Cond.code yX7_of cX7_of 3 (some .int), Cond.methodLink RX7 53 yX7_changes, Cond.instanceMethod yX7_changes, Cond.selects RX7 yX7_changes yX7_changes, Cond.code yX7_changes cX7_changes 2 none, Cond.fieldLink RX7 34 "JoinedLightModel" "runs" "Z", Cond.fieldLink RX7 38 "JoinedLightModel" "pasts" "I", Cond.fieldLink RX7 13 "JoinedLightModel" "past" "[I", Cond.methodLink RX7 68 yX7_opens, Cond.instanceMethod yX7_opens, Cond.selects RX7 yX7_opens yX7_opens, Cond.code yX7_opens cX7_opens 4 (some .int)]
def wsX7_lays_r2 : List Cond := [Cond.methodLink RX7 71 yX7_sets, Cond.instanceMethod yX7_sets, Cond.selects RX7 yX7_sets yX7_sets, Cond.code yX7_sets cX7_sets 7 none]
def wsX7_lays : List Cond := .code yX7_lays cX7_lays 6 (some .int) :: ((wsX7_lays_r1 ++ wsX7_lays_r2) ++ wsX70)
def wsX7_isPlace : List Cond := .code yX7_isPlace cX7_isPlace 1 (some .boolean) :: ([.methodLink RX7 47 yX7_in, .static yX7_in, .initialized RX7, .code yX7_in cX7_in 3 (some .boolean)])
def wsX7_prism_r1 : List Cond := [Cond.constant RX7 51 (-1000000001), Cond.methodLink RX7 74 yX7_isPlace, Cond.static yX7_isPlace, Cond.initialized RX7, Cond.code yX7_isPlace cX7_isPlace 1 (some .boolean), Cond.methodLink RX7 47 yX7_in, Cond.static yX7_in, Cond.code yX7_in cX7_in 3 (some .boolean), Cond.methodLink RX7 77 yX7_lays, Cond.instanceMethod yX7_lays, Cond.selects RX7 yX7_lays yX7_lays, Cond.code yX7_lays cX7_lays 6 (some .int), Cond.constant RX7 67 (-1000000002), Cond.fieldLink RX7 7 "JoinedLightModel" "s" "[I", Cond.constant RX7 52 (-1000000003), Cond.methodLink RX7 64 yX7_at, Cond.instanceMethod yX7_at, Cond.selects RX7 yX7_at yX7_at, Cond.code yX7_at cX7_at 3 (some .int), Cond.constant RX7 46 (-1000000004), Cond.methodLink RX7 42 yX7_of, Cond.instanceMethod yX7_of, Cond.selects RX7 yX7_of yX7_of, Cond.code yX7_of cX7_of 3 (some .int)]
def wsX7_prism_r2 : List Cond := [Cond.methodLink RX7 53 yX7_changes, Cond.instanceMethod yX7_changes, Cond.selects RX7 yX7_changes yX7_changes, Cond.code yX7_changes cX7_changes 2 none, Cond.fieldLink RX7 34 "JoinedLightModel" "runs" "Z", Cond.fieldLink RX7 38 "JoinedLightModel" "pasts" "I", Cond.fieldLink RX7 13 "JoinedLightModel" "past" "[I", Cond.methodLink RX7 68 yX7_opens, Cond.instanceMethod yX7_opens, Cond.selects RX7 yX7_opens yX7_opens, Cond.code yX7_opens cX7_opens 4 (some .int), Cond.methodLink RX7 71 yX7_sets, Cond.instanceMethod yX7_sets, Cond.selects RX7 yX7_sets yX7_sets, Cond.code yX7_sets cX7_sets 7 none]
def wsX7_prism : List Cond := .code yX7_prism cX7_prism 5 (some .int) :: ((wsX7_prism_r1 ++ wsX7_prism_r2) ++ wsX70)
def wsX7_slit_r1 : List Cond := [Cond.constant RX7 51 (-1000000001), Cond.methodLink RX7 74 yX7_isPlace, Cond.static yX7_isPlace, Cond.initialized RX7, Cond.code yX7_isPlace cX7_isPlace 1 (some .boolean), Cond.methodLink RX7 47 yX7_in, Cond.static yX7_in, Cond.code yX7_in cX7_in 3 (some .boolean), Cond.methodLink RX7 77 yX7_lays, Cond.instanceMethod yX7_lays, Cond.selects RX7 yX7_lays yX7_lays, Cond.code yX7_lays cX7_lays 6 (some .int), Cond.constant RX7 67 (-1000000002), Cond.fieldLink RX7 7 "JoinedLightModel" "s" "[I", Cond.constant RX7 52 (-1000000003), Cond.methodLink RX7 64 yX7_at, Cond.instanceMethod yX7_at, Cond.selects RX7 yX7_at yX7_at, Cond.code yX7_at cX7_at 3 (some .int), Cond.constant RX7 46 (-1000000004), Cond.methodLink RX7 42 yX7_of, Cond.instanceMethod yX7_of, Cond.selects RX7 yX7_of yX7_of, Cond.code yX7_of cX7_of 3 (some .int)]
def wsX7_slit_r2 : List Cond := [Cond.methodLink RX7 53 yX7_changes, Cond.instanceMethod yX7_changes, Cond.selects RX7 yX7_changes yX7_changes, Cond.code yX7_changes cX7_changes 2 none, Cond.fieldLink RX7 34 "JoinedLightModel" "runs" "Z", Cond.fieldLink RX7 38 "JoinedLightModel" "pasts" "I", Cond.fieldLink RX7 13 "JoinedLightModel" "past" "[I", Cond.methodLink RX7 68 yX7_opens, Cond.instanceMethod yX7_opens, Cond.selects RX7 yX7_opens yX7_opens, Cond.code yX7_opens cX7_opens 4 (some .int), Cond.methodLink RX7 71 yX7_sets, Cond.instanceMethod yX7_sets, Cond.selects RX7 yX7_sets yX7_sets, Cond.code yX7_sets cX7_sets 7 none]
def wsX7_slit : List Cond := .code yX7_slit cX7_slit 4 (some .int) :: ((wsX7_slit_r1 ++ wsX7_slit_r2) ++ wsX70)
def wsX7_take : List Cond := .code yX7_take cX7_take 3 (some .int) :: ([.constant RX7 51 (-1000000001), .fieldLink RX7 7 "JoinedLightModel" "s" "[I", .methodLink RX7 64 yX7_at, .instanceMethod yX7_at, .selects RX7 yX7_at yX7_at, .initialized RX7, .code yX7_at cX7_at 3 (some .int), .constant RX7 46 (-1000000004), .methodLink RX7 42 yX7_of, .instanceMethod yX7_of, .selects RX7 yX7_of yX7_of, .code yX7_of cX7_of 3 (some .int), .methodLink RX7 53 yX7_changes, .instanceMethod yX7_changes, .selects RX7 yX7_changes yX7_changes, .code yX7_changes cX7_changes 2 none, .fieldLink RX7 34 "JoinedLightModel" "runs" "Z", .fieldLink RX7 38 "JoinedLightModel" "pasts" "I", .fieldLink RX7 13 "JoinedLightModel" "past" "[I", .methodLink RX7 81 yX7_takesOut, .instanceMethod yX7_takesOut, .selects RX7 yX7_takesOut yX7_takesOut, .code yX7_takesOut cX7_takesOut 3 none] ++ wsX70)
def wsX7_moves : List Cond := .code yX7_moves cX7_moves 8 (some .int) :: ([.methodLink RX7 42 yX7_of, .instanceMethod yX7_of, .selects RX7 yX7_of yX7_of, .initialized RX7, .code yX7_of cX7_of 3 (some .int), .fieldLink RX7 7 "JoinedLightModel" "s" "[I", .methodLink RX7 81 yX7_takesOut, .instanceMethod yX7_takesOut, .selects RX7 yX7_takesOut yX7_takesOut, .code yX7_takesOut cX7_takesOut 3 none, .methodLink RX7 68 yX7_opens, .instanceMethod yX7_opens, .selects RX7 yX7_opens yX7_opens, .code yX7_opens cX7_opens 4 (some .int), .methodLink RX7 71 yX7_sets, .instanceMethod yX7_sets, .selects RX7 yX7_sets yX7_sets, .code yX7_sets cX7_sets 7 none] ++ wsX70)
def wsX7_move_r1 : List Cond := [Cond.constant RX7 51 (-1000000001), Cond.constant RX7 67 (-1000000002), Cond.methodLink RX7 64 yX7_at, Cond.instanceMethod yX7_at, Cond.selects RX7 yX7_at yX7_at, Cond.initialized RX7, Cond.code yX7_at cX7_at 3 (some .int), Cond.fieldLink RX7 7 "JoinedLightModel" "s" "[I", Cond.constant RX7 46 (-1000000004), Cond.methodLink RX7 42 yX7_of, Cond.instanceMethod yX7_of, Cond.selects RX7 yX7_of yX7_of, Cond.code yX7_of cX7_of 3 (some .int), Cond.methodLink RX7 74 yX7_isPlace, Cond.static yX7_isPlace, Cond.code yX7_isPlace cX7_isPlace 1 (some .boolean), Cond.methodLink RX7 47 yX7_in, Cond.static yX7_in, Cond.code yX7_in cX7_in 3 (some .boolean), Cond.methodLink RX7 53 yX7_changes, Cond.instanceMethod yX7_changes, Cond.selects RX7 yX7_changes yX7_changes, Cond.code yX7_changes cX7_changes 2 none, Cond.fieldLink RX7 34 "JoinedLightModel" "runs" "Z"]
def wsX7_move_r2 : List Cond := [Cond.fieldLink RX7 38 "JoinedLightModel" "pasts" "I", Cond.fieldLink RX7 13 "JoinedLightModel" "past" "[I", Cond.methodLink RX7 85 yX7_moves, Cond.instanceMethod yX7_moves, Cond.selects RX7 yX7_moves yX7_moves, Cond.code yX7_moves cX7_moves 8 (some .int), Cond.methodLink RX7 81 yX7_takesOut, Cond.instanceMethod yX7_takesOut, Cond.selects RX7 yX7_takesOut yX7_takesOut, Cond.code yX7_takesOut cX7_takesOut 3 none, Cond.methodLink RX7 68 yX7_opens, Cond.instanceMethod yX7_opens, Cond.selects RX7 yX7_opens yX7_opens, Cond.code yX7_opens cX7_opens 4 (some .int), Cond.methodLink RX7 71 yX7_sets, Cond.instanceMethod yX7_sets, Cond.selects RX7 yX7_sets yX7_sets, Cond.code yX7_sets cX7_sets 7 none]
def wsX7_move : List Cond := .code yX7_move cX7_move 4 (some .int) :: ((wsX7_move_r1 ++ wsX7_move_r2) ++ wsX70)
def wsX7_set : List Cond := .code yX7_set cX7_set 4 (some .int) :: ([.constant RX7 51 (-1000000001), .fieldLink RX7 7 "JoinedLightModel" "s" "[I", .methodLink RX7 47 yX7_in, .static yX7_in, .initialized RX7, .code yX7_in cX7_in 3 (some .boolean), .methodLink RX7 53 yX7_changes, .instanceMethod yX7_changes, .selects RX7 yX7_changes yX7_changes, .code yX7_changes cX7_changes 2 none, .fieldLink RX7 34 "JoinedLightModel" "runs" "Z", .fieldLink RX7 38 "JoinedLightModel" "pasts" "I", .fieldLink RX7 13 "JoinedLightModel" "past" "[I"] ++ wsX70)
def wsX7_bends : List Cond := .code yX7_bends cX7_bends 2 (some .int) :: ([])
def wsX7_goes : List Cond := .code yX7_goes cX7_goes 2 none :: ([.fieldLink RX7 88 "JoinedLightModel" "height" "I", .fieldLink RX7 91 "JoinedLightModel" "slope" "I", .fieldLink RX7 94 "JoinedLightModel" "place" "I", .fieldLink RX7 100 "JoinedLightModel" "why" "I", .methodLink RX7 97 yX7_floor, .static yX7_floor, .initialized RX7, .code yX7_floor cX7_floor 2 (some .int), .methodLink RX7 47 yX7_in, .static yX7_in, .code yX7_in cX7_in 3 (some .boolean)] ++ wsX70)
def wsX7_follows_r1 : List Cond := [Cond.fieldLink RX7 94 "JoinedLightModel" "place" "I", Cond.fieldLink RX7 88 "JoinedLightModel" "height" "I", Cond.fieldLink RX7 91 "JoinedLightModel" "slope" "I", Cond.fieldLink RX7 100 "JoinedLightModel" "why" "I", Cond.fieldLink RX7 7 "JoinedLightModel" "s" "[I", Cond.methodLink RX7 42 yX7_of, Cond.instanceMethod yX7_of, Cond.selects RX7 yX7_of yX7_of, Cond.initialized RX7, Cond.code yX7_of cX7_of 3 (some .int), Cond.methodLink RX7 103 yX7_goes, Cond.instanceMethod yX7_goes, Cond.selects RX7 yX7_goes yX7_goes, Cond.code yX7_goes cX7_goes 2 none, Cond.methodLink RX7 97 yX7_floor, Cond.static yX7_floor, Cond.code yX7_floor cX7_floor 2 (some .int), Cond.methodLink RX7 47 yX7_in, Cond.static yX7_in, Cond.code yX7_in cX7_in 3 (some .boolean), Cond.methodLink RX7 106 yX7_colour, Cond.instanceMethod yX7_colour, Cond.selects RX7 yX7_colour yX7_colour, Cond.code yX7_colour cX7_colour 2 (some .int)]
def wsX7_follows_r2 : List Cond := [Cond.methodLink RX7 109 yX7_bends, Cond.static yX7_bends, Cond.code yX7_bends cX7_bends 2 (some .int)]
def wsX7_follows : List Cond := .code yX7_follows cX7_follows 4 none :: ((wsX7_follows_r1 ++ wsX7_follows_r2) ++ wsX70)
def wsX7_cell : List Cond := .code yX7_cell cX7_cell 1 (some .int) :: ([.fieldLink RX7 88 "JoinedLightModel" "height" "I", .fieldLink RX7 7 "JoinedLightModel" "s" "[I", .methodLink RX7 97 yX7_floor, .static yX7_floor, .initialized RX7, .code yX7_floor cX7_floor 2 (some .int)] ++ wsX70)
def wsX7_lineOf_r1 : List Cond := [Cond.constant RX7 51 (-1000000001), Cond.fieldLink RX7 100 "JoinedLightModel" "why" "I", Cond.constant RX7 46 (-1000000004), Cond.fieldLink RX7 88 "JoinedLightModel" "height" "I", Cond.fieldLink RX7 91 "JoinedLightModel" "slope" "I", Cond.fieldLink RX7 94 "JoinedLightModel" "place" "I", Cond.methodLink RX7 56 yX7_isLine, Cond.instanceMethod yX7_isLine, Cond.selects RX7 yX7_isLine yX7_isLine, Cond.initialized RX7, Cond.code yX7_isLine cX7_isLine 2 (some .boolean), Cond.fieldLink RX7 7 "JoinedLightModel" "s" "[I", Cond.methodLink RX7 47 yX7_in, Cond.static yX7_in, Cond.code yX7_in cX7_in 3 (some .boolean), Cond.methodLink RX7 112 yX7_follows, Cond.instanceMethod yX7_follows, Cond.selects RX7 yX7_follows yX7_follows, Cond.code yX7_follows cX7_follows 4 none, Cond.methodLink RX7 42 yX7_of, Cond.instanceMethod yX7_of, Cond.selects RX7 yX7_of yX7_of, Cond.code yX7_of cX7_of 3 (some .int), Cond.methodLink RX7 103 yX7_goes]
def wsX7_lineOf_r2 : List Cond := [Cond.instanceMethod yX7_goes, Cond.selects RX7 yX7_goes yX7_goes, Cond.code yX7_goes cX7_goes 2 none, Cond.methodLink RX7 97 yX7_floor, Cond.static yX7_floor, Cond.code yX7_floor cX7_floor 2 (some .int), Cond.methodLink RX7 106 yX7_colour, Cond.instanceMethod yX7_colour, Cond.selects RX7 yX7_colour yX7_colour, Cond.code yX7_colour cX7_colour 2 (some .int), Cond.methodLink RX7 109 yX7_bends, Cond.static yX7_bends, Cond.code yX7_bends cX7_bends 2 (some .int), Cond.methodLink RX7 60 yX7_lightOf, Cond.instanceMethod yX7_lightOf, Cond.selects RX7 yX7_lightOf yX7_lightOf, Cond.code yX7_lightOf cX7_lightOf 2 (some .int), Cond.methodLink RX7 116 yX7_cell, Cond.instanceMethod yX7_cell, Cond.selects RX7 yX7_cell yX7_cell, Cond.code yX7_cell cX7_cell 1 (some .int)]
def wsX7_lineOf : List Cond := .code yX7_lineOf cX7_lineOf 3 (some .int) :: ((wsX7_lineOf_r1 ++ wsX7_lineOf_r2) ++ wsX70)
def wsX7_coming_r1 : List Cond := [Cond.fieldLink RX7 7 "JoinedLightModel" "s" "[I", Cond.fieldLink RX7 100 "JoinedLightModel" "why" "I", Cond.methodLink RX7 112 yX7_follows, Cond.instanceMethod yX7_follows, Cond.selects RX7 yX7_follows yX7_follows, Cond.initialized RX7, Cond.code yX7_follows cX7_follows 4 none, Cond.fieldLink RX7 94 "JoinedLightModel" "place" "I", Cond.fieldLink RX7 88 "JoinedLightModel" "height" "I", Cond.fieldLink RX7 91 "JoinedLightModel" "slope" "I", Cond.methodLink RX7 42 yX7_of, Cond.instanceMethod yX7_of, Cond.selects RX7 yX7_of yX7_of, Cond.code yX7_of cX7_of 3 (some .int), Cond.methodLink RX7 103 yX7_goes, Cond.instanceMethod yX7_goes, Cond.selects RX7 yX7_goes yX7_goes, Cond.code yX7_goes cX7_goes 2 none, Cond.methodLink RX7 97 yX7_floor, Cond.static yX7_floor, Cond.code yX7_floor cX7_floor 2 (some .int), Cond.methodLink RX7 47 yX7_in, Cond.static yX7_in, Cond.code yX7_in cX7_in 3 (some .boolean)]
def wsX7_coming_r2 : List Cond := [Cond.methodLink RX7 106 yX7_colour, Cond.instanceMethod yX7_colour, Cond.selects RX7 yX7_colour yX7_colour, Cond.code yX7_colour cX7_colour 2 (some .int), Cond.methodLink RX7 109 yX7_bends, Cond.static yX7_bends, Cond.code yX7_bends cX7_bends 2 (some .int)]
def wsX7_coming : List Cond := .code yX7_coming cX7_coming 4 (some .int) :: ((wsX7_coming_r1 ++ wsX7_coming_r2) ++ wsX70)
def wsX7_lightIn : List Cond := .code yX7_lightIn cX7_lightIn 4 (some .int) :: ([.fieldLink RX7 7 "JoinedLightModel" "s" "[I", .methodLink RX7 60 yX7_lightOf, .instanceMethod yX7_lightOf, .selects RX7 yX7_lightOf yX7_lightOf, .initialized RX7, .code yX7_lightOf cX7_lightOf 2 (some .int)] ++ wsX70)
def wsX7_lostAt_r1 : List Cond := [Cond.fieldLink RX7 7 "JoinedLightModel" "s" "[I", Cond.fieldLink RX7 100 "JoinedLightModel" "why" "I", Cond.fieldLink RX7 94 "JoinedLightModel" "place" "I", Cond.methodLink RX7 112 yX7_follows, Cond.instanceMethod yX7_follows, Cond.selects RX7 yX7_follows yX7_follows, Cond.initialized RX7, Cond.code yX7_follows cX7_follows 4 none, Cond.fieldLink RX7 88 "JoinedLightModel" "height" "I", Cond.fieldLink RX7 91 "JoinedLightModel" "slope" "I", Cond.methodLink RX7 42 yX7_of, Cond.instanceMethod yX7_of, Cond.selects RX7 yX7_of yX7_of, Cond.code yX7_of cX7_of 3 (some .int), Cond.methodLink RX7 103 yX7_goes, Cond.instanceMethod yX7_goes, Cond.selects RX7 yX7_goes yX7_goes, Cond.code yX7_goes cX7_goes 2 none, Cond.methodLink RX7 97 yX7_floor, Cond.static yX7_floor, Cond.code yX7_floor cX7_floor 2 (some .int), Cond.methodLink RX7 47 yX7_in, Cond.static yX7_in, Cond.code yX7_in cX7_in 3 (some .boolean)]
def wsX7_lostAt_r2 : List Cond := [Cond.methodLink RX7 106 yX7_colour, Cond.instanceMethod yX7_colour, Cond.selects RX7 yX7_colour yX7_colour, Cond.code yX7_colour cX7_colour 2 (some .int), Cond.methodLink RX7 109 yX7_bends, Cond.static yX7_bends, Cond.code yX7_bends cX7_bends 2 (some .int), Cond.methodLink RX7 60 yX7_lightOf, Cond.instanceMethod yX7_lightOf, Cond.selects RX7 yX7_lightOf yX7_lightOf, Cond.code yX7_lightOf cX7_lightOf 2 (some .int)]
def wsX7_lostAt : List Cond := .code yX7_lostAt cX7_lostAt 4 (some .int) :: ((wsX7_lostAt_r1 ++ wsX7_lostAt_r2) ++ wsX70)
def wsX7_thing_r1 : List Cond := [Cond.constant RX7 51 (-1000000001), Cond.fieldLink RX7 7 "JoinedLightModel" "s" "[I", Cond.constant RX7 46 (-1000000004), Cond.methodLink RX7 47 yX7_in, Cond.static yX7_in, Cond.initialized RX7, Cond.code yX7_in cX7_in 3 (some .boolean), Cond.methodLink RX7 42 yX7_of, Cond.instanceMethod yX7_of, Cond.selects RX7 yX7_of yX7_of, Cond.code yX7_of cX7_of 3 (some .int), Cond.methodLink RX7 120 yX7_coming, Cond.instanceMethod yX7_coming, Cond.selects RX7 yX7_coming yX7_coming, Cond.code yX7_coming cX7_coming 4 (some .int), Cond.fieldLink RX7 100 "JoinedLightModel" "why" "I", Cond.methodLink RX7 112 yX7_follows, Cond.instanceMethod yX7_follows, Cond.selects RX7 yX7_follows yX7_follows, Cond.code yX7_follows cX7_follows 4 none, Cond.fieldLink RX7 94 "JoinedLightModel" "place" "I", Cond.fieldLink RX7 88 "JoinedLightModel" "height" "I", Cond.fieldLink RX7 91 "JoinedLightModel" "slope" "I", Cond.methodLink RX7 103 yX7_goes]
def wsX7_thing_r2 : List Cond := [Cond.instanceMethod yX7_goes, Cond.selects RX7 yX7_goes yX7_goes, Cond.code yX7_goes cX7_goes 2 none, Cond.methodLink RX7 97 yX7_floor, Cond.static yX7_floor, Cond.code yX7_floor cX7_floor 2 (some .int), Cond.methodLink RX7 106 yX7_colour, Cond.instanceMethod yX7_colour, Cond.selects RX7 yX7_colour yX7_colour, Cond.code yX7_colour cX7_colour 2 (some .int), Cond.methodLink RX7 109 yX7_bends, Cond.static yX7_bends, Cond.code yX7_bends cX7_bends 2 (some .int), Cond.methodLink RX7 123 yX7_lostAt, Cond.instanceMethod yX7_lostAt, Cond.selects RX7 yX7_lostAt yX7_lostAt, Cond.code yX7_lostAt cX7_lostAt 4 (some .int), Cond.methodLink RX7 60 yX7_lightOf, Cond.instanceMethod yX7_lightOf, Cond.selects RX7 yX7_lightOf yX7_lightOf, Cond.code yX7_lightOf cX7_lightOf 2 (some .int)]
def wsX7_thing : List Cond := .code yX7_thing cX7_thing 3 (some .int) :: ((wsX7_thing_r1 ++ wsX7_thing_r2) ++ wsX70)
def wsX7_height_r1 : List Cond := [Cond.constant RX7 51 (-1000000001), Cond.fieldLink RX7 100 "JoinedLightModel" "why" "I", Cond.fieldLink RX7 88 "JoinedLightModel" "height" "I", Cond.constant RX7 46 (-1000000004), Cond.methodLink RX7 56 yX7_isLine, Cond.instanceMethod yX7_isLine, Cond.selects RX7 yX7_isLine yX7_isLine, Cond.initialized RX7, Cond.code yX7_isLine cX7_isLine 2 (some .boolean), Cond.fieldLink RX7 7 "JoinedLightModel" "s" "[I", Cond.methodLink RX7 47 yX7_in, Cond.static yX7_in, Cond.code yX7_in cX7_in 3 (some .boolean), Cond.methodLink RX7 112 yX7_follows, Cond.instanceMethod yX7_follows, Cond.selects RX7 yX7_follows yX7_follows, Cond.code yX7_follows cX7_follows 4 none, Cond.fieldLink RX7 94 "JoinedLightModel" "place" "I", Cond.fieldLink RX7 91 "JoinedLightModel" "slope" "I", Cond.methodLink RX7 42 yX7_of, Cond.instanceMethod yX7_of, Cond.selects RX7 yX7_of yX7_of, Cond.code yX7_of cX7_of 3 (some .int), Cond.methodLink RX7 103 yX7_goes]
def wsX7_height_r2 : List Cond := [Cond.instanceMethod yX7_goes, Cond.selects RX7 yX7_goes yX7_goes, Cond.code yX7_goes cX7_goes 2 none, Cond.methodLink RX7 97 yX7_floor, Cond.static yX7_floor, Cond.code yX7_floor cX7_floor 2 (some .int), Cond.methodLink RX7 106 yX7_colour, Cond.instanceMethod yX7_colour, Cond.selects RX7 yX7_colour yX7_colour, Cond.code yX7_colour cX7_colour 2 (some .int), Cond.methodLink RX7 109 yX7_bends, Cond.static yX7_bends, Cond.code yX7_bends cX7_bends 2 (some .int)]
def wsX7_height : List Cond := .code yX7_height cX7_height 3 (some .int) :: ((wsX7_height_r1 ++ wsX7_height_r2) ++ wsX70)
def wsX7_inCell_r1 : List Cond := [Cond.fieldLink RX7 7 "JoinedLightModel" "s" "[I", Cond.fieldLink RX7 100 "JoinedLightModel" "why" "I", Cond.methodLink RX7 112 yX7_follows, Cond.instanceMethod yX7_follows, Cond.selects RX7 yX7_follows yX7_follows, Cond.initialized RX7, Cond.code yX7_follows cX7_follows 4 none, Cond.fieldLink RX7 94 "JoinedLightModel" "place" "I", Cond.fieldLink RX7 88 "JoinedLightModel" "height" "I", Cond.fieldLink RX7 91 "JoinedLightModel" "slope" "I", Cond.methodLink RX7 42 yX7_of, Cond.instanceMethod yX7_of, Cond.selects RX7 yX7_of yX7_of, Cond.code yX7_of cX7_of 3 (some .int), Cond.methodLink RX7 103 yX7_goes, Cond.instanceMethod yX7_goes, Cond.selects RX7 yX7_goes yX7_goes, Cond.code yX7_goes cX7_goes 2 none, Cond.methodLink RX7 97 yX7_floor, Cond.static yX7_floor, Cond.code yX7_floor cX7_floor 2 (some .int), Cond.methodLink RX7 47 yX7_in, Cond.static yX7_in, Cond.code yX7_in cX7_in 3 (some .boolean)]
def wsX7_inCell_r2 : List Cond := [Cond.methodLink RX7 106 yX7_colour, Cond.instanceMethod yX7_colour, Cond.selects RX7 yX7_colour yX7_colour, Cond.code yX7_colour cX7_colour 2 (some .int), Cond.methodLink RX7 109 yX7_bends, Cond.static yX7_bends, Cond.code yX7_bends cX7_bends 2 (some .int), Cond.methodLink RX7 116 yX7_cell, Cond.instanceMethod yX7_cell, Cond.selects RX7 yX7_cell yX7_cell, Cond.code yX7_cell cX7_cell 1 (some .int)]
def wsX7_inCell : List Cond := .code yX7_inCell cX7_inCell 4 (some .int) :: ((wsX7_inCell_r1 ++ wsX7_inCell_r2) ++ wsX70)
def wsX7_light_r1 : List Cond := [Cond.constant RX7 51 (-1000000001), Cond.methodLink RX7 47 yX7_in, Cond.static yX7_in, Cond.initialized RX7, Cond.code yX7_in cX7_in 3 (some .boolean), Cond.methodLink RX7 126 yX7_inCell, Cond.instanceMethod yX7_inCell, Cond.selects RX7 yX7_inCell yX7_inCell, Cond.code yX7_inCell cX7_inCell 4 (some .int), Cond.fieldLink RX7 7 "JoinedLightModel" "s" "[I", Cond.fieldLink RX7 100 "JoinedLightModel" "why" "I", Cond.methodLink RX7 112 yX7_follows, Cond.instanceMethod yX7_follows, Cond.selects RX7 yX7_follows yX7_follows, Cond.code yX7_follows cX7_follows 4 none, Cond.fieldLink RX7 94 "JoinedLightModel" "place" "I", Cond.fieldLink RX7 88 "JoinedLightModel" "height" "I", Cond.fieldLink RX7 91 "JoinedLightModel" "slope" "I", Cond.methodLink RX7 42 yX7_of, Cond.instanceMethod yX7_of, Cond.selects RX7 yX7_of yX7_of, Cond.code yX7_of cX7_of 3 (some .int), Cond.methodLink RX7 103 yX7_goes, Cond.instanceMethod yX7_goes]
def wsX7_light_r2 : List Cond := [Cond.selects RX7 yX7_goes yX7_goes, Cond.code yX7_goes cX7_goes 2 none, Cond.methodLink RX7 97 yX7_floor, Cond.static yX7_floor, Cond.code yX7_floor cX7_floor 2 (some .int), Cond.methodLink RX7 106 yX7_colour, Cond.instanceMethod yX7_colour, Cond.selects RX7 yX7_colour yX7_colour, Cond.code yX7_colour cX7_colour 2 (some .int), Cond.methodLink RX7 109 yX7_bends, Cond.static yX7_bends, Cond.code yX7_bends cX7_bends 2 (some .int), Cond.methodLink RX7 116 yX7_cell, Cond.instanceMethod yX7_cell, Cond.selects RX7 yX7_cell yX7_cell, Cond.code yX7_cell cX7_cell 1 (some .int), Cond.methodLink RX7 129 yX7_lightIn, Cond.instanceMethod yX7_lightIn, Cond.selects RX7 yX7_lightIn yX7_lightIn, Cond.code yX7_lightIn cX7_lightIn 4 (some .int), Cond.methodLink RX7 60 yX7_lightOf, Cond.instanceMethod yX7_lightOf, Cond.selects RX7 yX7_lightOf yX7_lightOf, Cond.code yX7_lightOf cX7_lightOf 2 (some .int)]
def wsX7_light : List Cond := .code yX7_light cX7_light 2 (some .int) :: ((wsX7_light_r1 ++ wsX7_light_r2) ++ wsX70)
def wsX7_laysCells_r1 : List Cond := [Cond.fieldLink RX7 7 "JoinedLightModel" "s" "[I", Cond.fieldLink RX7 100 "JoinedLightModel" "why" "I", Cond.fieldLink RX7 25 "JoinedLightModel" "cells" "[I", Cond.fieldLink RX7 28 "JoinedLightModel" "sets" "[I", Cond.methodLink RX7 112 yX7_follows, Cond.instanceMethod yX7_follows, Cond.selects RX7 yX7_follows yX7_follows, Cond.initialized RX7, Cond.code yX7_follows cX7_follows 4 none, Cond.fieldLink RX7 94 "JoinedLightModel" "place" "I", Cond.fieldLink RX7 88 "JoinedLightModel" "height" "I", Cond.fieldLink RX7 91 "JoinedLightModel" "slope" "I", Cond.methodLink RX7 42 yX7_of, Cond.instanceMethod yX7_of, Cond.selects RX7 yX7_of yX7_of, Cond.code yX7_of cX7_of 3 (some .int), Cond.methodLink RX7 103 yX7_goes, Cond.instanceMethod yX7_goes, Cond.selects RX7 yX7_goes yX7_goes, Cond.code yX7_goes cX7_goes 2 none, Cond.methodLink RX7 97 yX7_floor, Cond.static yX7_floor, Cond.code yX7_floor cX7_floor 2 (some .int), Cond.methodLink RX7 47 yX7_in]
def wsX7_laysCells_r2 : List Cond := [Cond.static yX7_in, Cond.code yX7_in cX7_in 3 (some .boolean), Cond.methodLink RX7 106 yX7_colour, Cond.instanceMethod yX7_colour, Cond.selects RX7 yX7_colour yX7_colour, Cond.code yX7_colour cX7_colour 2 (some .int), Cond.methodLink RX7 109 yX7_bends, Cond.static yX7_bends, Cond.code yX7_bends cX7_bends 2 (some .int), Cond.methodLink RX7 116 yX7_cell, Cond.instanceMethod yX7_cell, Cond.selects RX7 yX7_cell yX7_cell, Cond.code yX7_cell cX7_cell 1 (some .int), Cond.methodLink RX7 126 yX7_inCell, Cond.instanceMethod yX7_inCell, Cond.selects RX7 yX7_inCell yX7_inCell, Cond.code yX7_inCell cX7_inCell 4 (some .int)]
def wsX7_laysCells : List Cond := .code yX7_laysCells cX7_laysCells 4 (some .int) :: ((wsX7_laysCells_r1 ++ wsX7_laysCells_r2) ++ wsX70)
def wsX7_isBrighter : List Cond := .code yX7_isBrighter cX7_isBrighter 4 (some .boolean) :: ([.fieldLink RX7 28 "JoinedLightModel" "sets" "[I", .fieldLink RX7 25 "JoinedLightModel" "cells" "[I", .methodLink RX7 129 yX7_lightIn, .instanceMethod yX7_lightIn, .selects RX7 yX7_lightIn yX7_lightIn, .initialized RX7, .code yX7_lightIn cX7_lightIn 4 (some .int), .fieldLink RX7 7 "JoinedLightModel" "s" "[I", .methodLink RX7 60 yX7_lightOf, .instanceMethod yX7_lightOf, .selects RX7 yX7_lightOf yX7_lightOf, .code yX7_lightOf cX7_lightOf 2 (some .int)] ++ wsX70)
def wsX7_bright_r1 : List Cond := [Cond.constant RX7 51 (-1000000001), Cond.fieldLink RX7 25 "JoinedLightModel" "cells" "[I", Cond.fieldLink RX7 28 "JoinedLightModel" "sets" "[I", Cond.constant RX7 46 (-1000000004), Cond.methodLink RX7 47 yX7_in, Cond.static yX7_in, Cond.initialized RX7, Cond.code yX7_in cX7_in 3 (some .boolean), Cond.methodLink RX7 132 yX7_laysCells, Cond.instanceMethod yX7_laysCells, Cond.selects RX7 yX7_laysCells yX7_laysCells, Cond.code yX7_laysCells cX7_laysCells 4 (some .int), Cond.fieldLink RX7 7 "JoinedLightModel" "s" "[I", Cond.fieldLink RX7 100 "JoinedLightModel" "why" "I", Cond.methodLink RX7 112 yX7_follows, Cond.instanceMethod yX7_follows, Cond.selects RX7 yX7_follows yX7_follows, Cond.code yX7_follows cX7_follows 4 none, Cond.fieldLink RX7 94 "JoinedLightModel" "place" "I", Cond.fieldLink RX7 88 "JoinedLightModel" "height" "I", Cond.fieldLink RX7 91 "JoinedLightModel" "slope" "I", Cond.methodLink RX7 42 yX7_of, Cond.instanceMethod yX7_of, Cond.selects RX7 yX7_of yX7_of]
def wsX7_bright_r2 : List Cond := [Cond.code yX7_of cX7_of 3 (some .int), Cond.methodLink RX7 103 yX7_goes, Cond.instanceMethod yX7_goes, Cond.selects RX7 yX7_goes yX7_goes, Cond.code yX7_goes cX7_goes 2 none, Cond.methodLink RX7 97 yX7_floor, Cond.static yX7_floor, Cond.code yX7_floor cX7_floor 2 (some .int), Cond.methodLink RX7 106 yX7_colour, Cond.instanceMethod yX7_colour, Cond.selects RX7 yX7_colour yX7_colour, Cond.code yX7_colour cX7_colour 2 (some .int), Cond.methodLink RX7 109 yX7_bends, Cond.static yX7_bends, Cond.code yX7_bends cX7_bends 2 (some .int), Cond.methodLink RX7 116 yX7_cell, Cond.instanceMethod yX7_cell, Cond.selects RX7 yX7_cell yX7_cell, Cond.code yX7_cell cX7_cell 1 (some .int), Cond.methodLink RX7 126 yX7_inCell, Cond.instanceMethod yX7_inCell, Cond.selects RX7 yX7_inCell yX7_inCell, Cond.code yX7_inCell cX7_inCell 4 (some .int), Cond.methodLink RX7 135 yX7_isBrighter]
def wsX7_bright_r3 : List Cond := [Cond.instanceMethod yX7_isBrighter, Cond.selects RX7 yX7_isBrighter yX7_isBrighter, Cond.code yX7_isBrighter cX7_isBrighter 4 (some .boolean), Cond.methodLink RX7 129 yX7_lightIn, Cond.instanceMethod yX7_lightIn, Cond.selects RX7 yX7_lightIn yX7_lightIn, Cond.code yX7_lightIn cX7_lightIn 4 (some .int), Cond.methodLink RX7 60 yX7_lightOf, Cond.instanceMethod yX7_lightOf, Cond.selects RX7 yX7_lightOf yX7_lightOf, Cond.code yX7_lightOf cX7_lightOf 2 (some .int)]
def wsX7_bright : List Cond := .code yX7_bright cX7_bright 7 (some .int) :: ((wsX7_bright_r1 ++ (wsX7_bright_r2 ++ wsX7_bright_r3)) ++ wsX70)
def wsX7_bending : List Cond := .code yX7_bending cX7_bending 3 (some .int) :: ([.constant RX7 51 (-1000000001), .methodLink RX7 47 yX7_in, .static yX7_in, .initialized RX7, .code yX7_in cX7_in 3 (some .boolean), .methodLink RX7 109 yX7_bends, .static yX7_bends, .code yX7_bends cX7_bends 2 (some .int)])
def wsX7_spread_r1 : List Cond := [Cond.fieldLink RX7 7 "JoinedLightModel" "s" "[I", Cond.fieldLink RX7 100 "JoinedLightModel" "why" "I", Cond.fieldLink RX7 88 "JoinedLightModel" "height" "I", Cond.methodLink RX7 112 yX7_follows, Cond.instanceMethod yX7_follows, Cond.selects RX7 yX7_follows yX7_follows, Cond.initialized RX7, Cond.code yX7_follows cX7_follows 4 none, Cond.fieldLink RX7 94 "JoinedLightModel" "place" "I", Cond.fieldLink RX7 91 "JoinedLightModel" "slope" "I", Cond.methodLink RX7 42 yX7_of, Cond.instanceMethod yX7_of, Cond.selects RX7 yX7_of yX7_of, Cond.code yX7_of cX7_of 3 (some .int), Cond.methodLink RX7 103 yX7_goes, Cond.instanceMethod yX7_goes, Cond.selects RX7 yX7_goes yX7_goes, Cond.code yX7_goes cX7_goes 2 none, Cond.methodLink RX7 97 yX7_floor, Cond.static yX7_floor, Cond.code yX7_floor cX7_floor 2 (some .int), Cond.methodLink RX7 47 yX7_in, Cond.static yX7_in, Cond.code yX7_in cX7_in 3 (some .boolean)]
def wsX7_spread_r2 : List Cond := [Cond.methodLink RX7 106 yX7_colour, Cond.instanceMethod yX7_colour, Cond.selects RX7 yX7_colour yX7_colour, Cond.code yX7_colour cX7_colour 2 (some .int), Cond.methodLink RX7 109 yX7_bends, Cond.static yX7_bends, Cond.code yX7_bends cX7_bends 2 (some .int)]
def wsX7_spread : List Cond := .code yX7_spread cX7_spread 4 (some .int) :: ((wsX7_spread_r1 ++ wsX7_spread_r2) ++ wsX70)
def wsX7_best_r1 : List Cond := [Cond.constant RX7 51 (-1000000001), Cond.fieldLink RX7 7 "JoinedLightModel" "s" "[I", Cond.fieldLink RX7 19 "JoinedLightModel" "tried" "[I", Cond.constant RX7 46 (-1000000004), Cond.methodLink RX7 64 yX7_at, Cond.instanceMethod yX7_at, Cond.selects RX7 yX7_at yX7_at, Cond.initialized RX7, Cond.code yX7_at cX7_at 3 (some .int), Cond.methodLink RX7 42 yX7_of, Cond.instanceMethod yX7_of, Cond.selects RX7 yX7_of yX7_of, Cond.code yX7_of cX7_of 3 (some .int), Cond.methodLink RX7 47 yX7_in, Cond.static yX7_in, Cond.code yX7_in cX7_in 3 (some .boolean), Cond.methodLink RX7 139 yX7_copies, Cond.static yX7_copies, Cond.code yX7_copies cX7_copies 3 none, Cond.methodLink RX7 85 yX7_moves, Cond.instanceMethod yX7_moves, Cond.selects RX7 yX7_moves yX7_moves, Cond.code yX7_moves cX7_moves 8 (some .int), Cond.methodLink RX7 81 yX7_takesOut]
def wsX7_best_r2 : List Cond := [Cond.instanceMethod yX7_takesOut, Cond.selects RX7 yX7_takesOut yX7_takesOut, Cond.code yX7_takesOut cX7_takesOut 3 none, Cond.methodLink RX7 68 yX7_opens, Cond.instanceMethod yX7_opens, Cond.selects RX7 yX7_opens yX7_opens, Cond.code yX7_opens cX7_opens 4 (some .int), Cond.methodLink RX7 71 yX7_sets, Cond.instanceMethod yX7_sets, Cond.selects RX7 yX7_sets yX7_sets, Cond.code yX7_sets cX7_sets 7 none, Cond.methodLink RX7 120 yX7_coming, Cond.instanceMethod yX7_coming, Cond.selects RX7 yX7_coming yX7_coming, Cond.code yX7_coming cX7_coming 4 (some .int), Cond.fieldLink RX7 100 "JoinedLightModel" "why" "I", Cond.methodLink RX7 112 yX7_follows, Cond.instanceMethod yX7_follows, Cond.selects RX7 yX7_follows yX7_follows, Cond.code yX7_follows cX7_follows 4 none, Cond.fieldLink RX7 94 "JoinedLightModel" "place" "I", Cond.fieldLink RX7 88 "JoinedLightModel" "height" "I", Cond.fieldLink RX7 91 "JoinedLightModel" "slope" "I", Cond.methodLink RX7 103 yX7_goes]
def wsX7_best_r3 : List Cond := [Cond.instanceMethod yX7_goes, Cond.selects RX7 yX7_goes yX7_goes, Cond.code yX7_goes cX7_goes 2 none, Cond.methodLink RX7 97 yX7_floor, Cond.static yX7_floor, Cond.code yX7_floor cX7_floor 2 (some .int), Cond.methodLink RX7 106 yX7_colour, Cond.instanceMethod yX7_colour, Cond.selects RX7 yX7_colour yX7_colour, Cond.code yX7_colour cX7_colour 2 (some .int), Cond.methodLink RX7 109 yX7_bends, Cond.static yX7_bends, Cond.code yX7_bends cX7_bends 2 (some .int), Cond.methodLink RX7 143 yX7_ones, Cond.static yX7_ones, Cond.code yX7_ones cX7_ones 3 (some .int), Cond.methodLink RX7 146 yX7_spread, Cond.instanceMethod yX7_spread, Cond.selects RX7 yX7_spread yX7_spread, Cond.code yX7_spread cX7_spread 4 (some .int)]
def wsX7_best : List Cond := .code yX7_best cX7_best 11 (some .int) :: ((wsX7_best_r1 ++ (wsX7_best_r2 ++ wsX7_best_r3)) ++ wsX70)
def wsX7_alone_r1 : List Cond := [Cond.constant RX7 51 (-1000000001), Cond.fieldLink RX7 100 "JoinedLightModel" "why" "I", Cond.fieldLink RX7 88 "JoinedLightModel" "height" "I", Cond.fieldLink RX7 7 "JoinedLightModel" "s" "[I", Cond.constant RX7 67 (-1000000002), Cond.constant RX7 46 (-1000000004), Cond.methodLink RX7 56 yX7_isLine, Cond.instanceMethod yX7_isLine, Cond.selects RX7 yX7_isLine yX7_isLine, Cond.initialized RX7, Cond.code yX7_isLine cX7_isLine 2 (some .boolean), Cond.methodLink RX7 74 yX7_isPlace, Cond.static yX7_isPlace, Cond.code yX7_isPlace cX7_isPlace 1 (some .boolean), Cond.methodLink RX7 47 yX7_in, Cond.static yX7_in, Cond.code yX7_in cX7_in 3 (some .boolean), Cond.methodLink RX7 112 yX7_follows, Cond.instanceMethod yX7_follows, Cond.selects RX7 yX7_follows yX7_follows, Cond.code yX7_follows cX7_follows 4 none, Cond.fieldLink RX7 94 "JoinedLightModel" "place" "I", Cond.fieldLink RX7 91 "JoinedLightModel" "slope" "I", Cond.methodLink RX7 42 yX7_of]
def wsX7_alone_r2 : List Cond := [Cond.instanceMethod yX7_of, Cond.selects RX7 yX7_of yX7_of, Cond.code yX7_of cX7_of 3 (some .int), Cond.methodLink RX7 103 yX7_goes, Cond.instanceMethod yX7_goes, Cond.selects RX7 yX7_goes yX7_goes, Cond.code yX7_goes cX7_goes 2 none, Cond.methodLink RX7 97 yX7_floor, Cond.static yX7_floor, Cond.code yX7_floor cX7_floor 2 (some .int), Cond.methodLink RX7 106 yX7_colour, Cond.instanceMethod yX7_colour, Cond.selects RX7 yX7_colour yX7_colour, Cond.code yX7_colour cX7_colour 2 (some .int), Cond.methodLink RX7 109 yX7_bends, Cond.static yX7_bends, Cond.code yX7_bends cX7_bends 2 (some .int), Cond.methodLink RX7 64 yX7_at, Cond.instanceMethod yX7_at, Cond.selects RX7 yX7_at yX7_at, Cond.code yX7_at cX7_at 3 (some .int)]
def wsX7_alone : List Cond := .code yX7_alone cX7_alone 7 (some .int) :: ((wsX7_alone_r1 ++ wsX7_alone_r2) ++ wsX70)
def wsX7_tuned_r1 : List Cond := [Cond.constant RX7 51 (-1000000001), Cond.constant RX7 46 (-1000000004), Cond.fieldLink RX7 7 "JoinedLightModel" "s" "[I", Cond.methodLink RX7 64 yX7_at, Cond.instanceMethod yX7_at, Cond.selects RX7 yX7_at yX7_at, Cond.initialized RX7, Cond.code yX7_at cX7_at 3 (some .int), Cond.methodLink RX7 42 yX7_of, Cond.instanceMethod yX7_of, Cond.selects RX7 yX7_of yX7_of, Cond.code yX7_of cX7_of 3 (some .int), Cond.methodLink RX7 120 yX7_coming, Cond.instanceMethod yX7_coming, Cond.selects RX7 yX7_coming yX7_coming, Cond.code yX7_coming cX7_coming 4 (some .int), Cond.fieldLink RX7 100 "JoinedLightModel" "why" "I", Cond.methodLink RX7 112 yX7_follows, Cond.instanceMethod yX7_follows, Cond.selects RX7 yX7_follows yX7_follows, Cond.code yX7_follows cX7_follows 4 none, Cond.fieldLink RX7 94 "JoinedLightModel" "place" "I", Cond.fieldLink RX7 88 "JoinedLightModel" "height" "I", Cond.fieldLink RX7 91 "JoinedLightModel" "slope" "I"]
def wsX7_tuned_r2 : List Cond := [Cond.methodLink RX7 103 yX7_goes, Cond.instanceMethod yX7_goes, Cond.selects RX7 yX7_goes yX7_goes, Cond.code yX7_goes cX7_goes 2 none, Cond.methodLink RX7 97 yX7_floor, Cond.static yX7_floor, Cond.code yX7_floor cX7_floor 2 (some .int), Cond.methodLink RX7 47 yX7_in, Cond.static yX7_in, Cond.code yX7_in cX7_in 3 (some .boolean), Cond.methodLink RX7 106 yX7_colour, Cond.instanceMethod yX7_colour, Cond.selects RX7 yX7_colour yX7_colour, Cond.code yX7_colour cX7_colour 2 (some .int), Cond.methodLink RX7 109 yX7_bends, Cond.static yX7_bends, Cond.code yX7_bends cX7_bends 2 (some .int), Cond.methodLink RX7 143 yX7_ones, Cond.static yX7_ones, Cond.code yX7_ones cX7_ones 3 (some .int), Cond.methodLink RX7 146 yX7_spread, Cond.instanceMethod yX7_spread, Cond.selects RX7 yX7_spread yX7_spread, Cond.code yX7_spread cX7_spread 4 (some .int)]
def wsX7_tuned : List Cond := .code yX7_tuned cX7_tuned 11 (some .int) :: ((wsX7_tuned_r1 ++ wsX7_tuned_r2) ++ wsX70)
def wsX7_allLines : List Cond := .code yX7_allLines cX7_allLines 1 (some .int) :: ([.fieldLink RX7 7 "JoinedLightModel" "s" "[I"] ++ wsX70)
def wsJxf58ca_isNaN_12338 : List Cond := .code yJxf58ca_isNaN_12338 cJxf58ca_isNaN_12338 1 (some .boolean) :: ([])
def wsJxf58ca_floatToIntBits_5c35a : List Cond := .code yJxf58ca_floatToIntBits_5c35a cJxf58ca_floatToIntBits_5c35a 1 (some .int) :: ([.methodLink RJxf58ca 74 ⟨"java/lang/Float", "floatToRawIntBits", "(F)I"⟩, .native ⟨"java/lang/Float", "floatToRawIntBits", "(F)I"⟩, .static ⟨"java/lang/Float", "floatToRawIntBits", "(F)I"⟩, .initialized "java/lang/Float", .constant RJxf58ca 77 (2143289344), .methodLink RJxf58ca 59 yJxf58ca_isNaN_12338, .static yJxf58ca_isNaN_12338, .initialized RJxf58ca, .code yJxf58ca_isNaN_12338 cJxf58ca_isNaN_12338 1 (some .boolean)])
def wsX7_share_r1 : List Cond := [Cond.constant RX7 46 (-1000000004), Cond.methodLink RX7 149 yX7_allLines, Cond.instanceMethod yX7_allLines, Cond.selects RX7 yX7_allLines yX7_allLines, Cond.initialized RX7, Cond.code yX7_allLines cX7_allLines 1 (some .int), Cond.fieldLink RX7 7 "JoinedLightModel" "s" "[I", Cond.methodLink RX7 129 yX7_lightIn, Cond.instanceMethod yX7_lightIn, Cond.selects RX7 yX7_lightIn yX7_lightIn, Cond.code yX7_lightIn cX7_lightIn 4 (some .int), Cond.methodLink RX7 60 yX7_lightOf, Cond.instanceMethod yX7_lightOf, Cond.selects RX7 yX7_lightOf yX7_lightOf, Cond.code yX7_lightOf cX7_lightOf 2 (some .int), Cond.methodLink RX7 120 yX7_coming, Cond.instanceMethod yX7_coming, Cond.selects RX7 yX7_coming yX7_coming, Cond.code yX7_coming cX7_coming 4 (some .int), Cond.fieldLink RX7 100 "JoinedLightModel" "why" "I", Cond.methodLink RX7 112 yX7_follows, Cond.instanceMethod yX7_follows, Cond.selects RX7 yX7_follows yX7_follows, Cond.code yX7_follows cX7_follows 4 none]
def wsX7_share_r2 : List Cond := [Cond.fieldLink RX7 94 "JoinedLightModel" "place" "I", Cond.fieldLink RX7 88 "JoinedLightModel" "height" "I", Cond.fieldLink RX7 91 "JoinedLightModel" "slope" "I", Cond.methodLink RX7 42 yX7_of, Cond.instanceMethod yX7_of, Cond.selects RX7 yX7_of yX7_of, Cond.code yX7_of cX7_of 3 (some .int), Cond.methodLink RX7 103 yX7_goes, Cond.instanceMethod yX7_goes, Cond.selects RX7 yX7_goes yX7_goes, Cond.code yX7_goes cX7_goes 2 none, Cond.methodLink RX7 97 yX7_floor, Cond.static yX7_floor, Cond.code yX7_floor cX7_floor 2 (some .int), Cond.methodLink RX7 47 yX7_in, Cond.static yX7_in, Cond.code yX7_in cX7_in 3 (some .boolean), Cond.methodLink RX7 106 yX7_colour, Cond.instanceMethod yX7_colour, Cond.selects RX7 yX7_colour yX7_colour, Cond.code yX7_colour cX7_colour 2 (some .int), Cond.methodLink RX7 109 yX7_bends, Cond.static yX7_bends, Cond.code yX7_bends cX7_bends 2 (some .int)]
def wsX7_share_r3 : List Cond := [Cond.methodLink RX7 152 yJxf58ca_floatToIntBits_5c35a, Cond.static yJxf58ca_floatToIntBits_5c35a, Cond.initialized RJxf58ca, Cond.code yJxf58ca_floatToIntBits_5c35a cJxf58ca_floatToIntBits_5c35a 1 (some .int), Cond.methodLink RJxf58ca 74 ⟨"java/lang/Float", "floatToRawIntBits", "(F)I"⟩, Cond.native ⟨"java/lang/Float", "floatToRawIntBits", "(F)I"⟩, Cond.static ⟨"java/lang/Float", "floatToRawIntBits", "(F)I"⟩, Cond.initialized "java/lang/Float", Cond.constant RJxf58ca 77 (2143289344), Cond.methodLink RJxf58ca 59 yJxf58ca_isNaN_12338, Cond.static yJxf58ca_isNaN_12338, Cond.code yJxf58ca_isNaN_12338 cJxf58ca_isNaN_12338 1 (some .boolean)]
def wsX7_share : List Cond := .code yX7_share cX7_share 3 (some .int) :: ((wsX7_share_r1 ++ (wsX7_share_r2 ++ wsX7_share_r3)) ++ wsX70)
def wsX7_isJoined_r1 : List Cond := [Cond.fieldLink RX7 7 "JoinedLightModel" "s" "[I", Cond.methodLink RX7 120 yX7_coming, Cond.instanceMethod yX7_coming, Cond.selects RX7 yX7_coming yX7_coming, Cond.initialized RX7, Cond.code yX7_coming cX7_coming 4 (some .int), Cond.fieldLink RX7 100 "JoinedLightModel" "why" "I", Cond.methodLink RX7 112 yX7_follows, Cond.instanceMethod yX7_follows, Cond.selects RX7 yX7_follows yX7_follows, Cond.code yX7_follows cX7_follows 4 none, Cond.fieldLink RX7 94 "JoinedLightModel" "place" "I", Cond.fieldLink RX7 88 "JoinedLightModel" "height" "I", Cond.fieldLink RX7 91 "JoinedLightModel" "slope" "I", Cond.methodLink RX7 42 yX7_of, Cond.instanceMethod yX7_of, Cond.selects RX7 yX7_of yX7_of, Cond.code yX7_of cX7_of 3 (some .int), Cond.methodLink RX7 103 yX7_goes, Cond.instanceMethod yX7_goes, Cond.selects RX7 yX7_goes yX7_goes, Cond.code yX7_goes cX7_goes 2 none, Cond.methodLink RX7 97 yX7_floor, Cond.static yX7_floor]
def wsX7_isJoined_r2 : List Cond := [Cond.code yX7_floor cX7_floor 2 (some .int), Cond.methodLink RX7 47 yX7_in, Cond.static yX7_in, Cond.code yX7_in cX7_in 3 (some .boolean), Cond.methodLink RX7 106 yX7_colour, Cond.instanceMethod yX7_colour, Cond.selects RX7 yX7_colour yX7_colour, Cond.code yX7_colour cX7_colour 2 (some .int), Cond.methodLink RX7 109 yX7_bends, Cond.static yX7_bends, Cond.code yX7_bends cX7_bends 2 (some .int), Cond.methodLink RX7 149 yX7_allLines, Cond.instanceMethod yX7_allLines, Cond.selects RX7 yX7_allLines yX7_allLines, Cond.code yX7_allLines cX7_allLines 1 (some .int), Cond.methodLink RX7 132 yX7_laysCells, Cond.instanceMethod yX7_laysCells, Cond.selects RX7 yX7_laysCells yX7_laysCells, Cond.code yX7_laysCells cX7_laysCells 4 (some .int), Cond.fieldLink RX7 25 "JoinedLightModel" "cells" "[I", Cond.fieldLink RX7 28 "JoinedLightModel" "sets" "[I", Cond.methodLink RX7 116 yX7_cell, Cond.instanceMethod yX7_cell, Cond.selects RX7 yX7_cell yX7_cell]
def wsX7_isJoined_r3 : List Cond := [Cond.code yX7_cell cX7_cell 1 (some .int), Cond.methodLink RX7 126 yX7_inCell, Cond.instanceMethod yX7_inCell, Cond.selects RX7 yX7_inCell yX7_inCell, Cond.code yX7_inCell cX7_inCell 4 (some .int)]
def wsX7_isJoined : List Cond := .code yX7_isJoined cX7_isJoined 1 (some .boolean) :: ((wsX7_isJoined_r1 ++ (wsX7_isJoined_r2 ++ wsX7_isJoined_r3)) ++ wsX70)
def wsX7_isAsItWas_r1 : List Cond := [Cond.fieldLink RX7 91 "JoinedLightModel" "slope" "I", Cond.fieldLink RX7 7 "JoinedLightModel" "s" "[I", Cond.methodLink RX7 112 yX7_follows, Cond.instanceMethod yX7_follows, Cond.selects RX7 yX7_follows yX7_follows, Cond.initialized RX7, Cond.code yX7_follows cX7_follows 4 none, Cond.fieldLink RX7 94 "JoinedLightModel" "place" "I", Cond.fieldLink RX7 88 "JoinedLightModel" "height" "I", Cond.fieldLink RX7 100 "JoinedLightModel" "why" "I", Cond.methodLink RX7 42 yX7_of, Cond.instanceMethod yX7_of, Cond.selects RX7 yX7_of yX7_of, Cond.code yX7_of cX7_of 3 (some .int), Cond.methodLink RX7 103 yX7_goes, Cond.instanceMethod yX7_goes, Cond.selects RX7 yX7_goes yX7_goes, Cond.code yX7_goes cX7_goes 2 none, Cond.methodLink RX7 97 yX7_floor, Cond.static yX7_floor, Cond.code yX7_floor cX7_floor 2 (some .int), Cond.methodLink RX7 47 yX7_in, Cond.static yX7_in, Cond.code yX7_in cX7_in 3 (some .boolean)]
def wsX7_isAsItWas_r2 : List Cond := [Cond.methodLink RX7 106 yX7_colour, Cond.instanceMethod yX7_colour, Cond.selects RX7 yX7_colour yX7_colour, Cond.code yX7_colour cX7_colour 2 (some .int), Cond.methodLink RX7 109 yX7_bends, Cond.static yX7_bends, Cond.code yX7_bends cX7_bends 2 (some .int), Cond.methodLink RX7 158 yX7_isJoined, Cond.instanceMethod yX7_isJoined, Cond.selects RX7 yX7_isJoined yX7_isJoined, Cond.code yX7_isJoined cX7_isJoined 1 (some .boolean), Cond.methodLink RX7 120 yX7_coming, Cond.instanceMethod yX7_coming, Cond.selects RX7 yX7_coming yX7_coming, Cond.code yX7_coming cX7_coming 4 (some .int), Cond.methodLink RX7 149 yX7_allLines, Cond.instanceMethod yX7_allLines, Cond.selects RX7 yX7_allLines yX7_allLines, Cond.code yX7_allLines cX7_allLines 1 (some .int), Cond.methodLink RX7 132 yX7_laysCells, Cond.instanceMethod yX7_laysCells, Cond.selects RX7 yX7_laysCells yX7_laysCells, Cond.code yX7_laysCells cX7_laysCells 4 (some .int), Cond.fieldLink RX7 25 "JoinedLightModel" "cells" "[I"]
def wsX7_isAsItWas_r3 : List Cond := [Cond.fieldLink RX7 28 "JoinedLightModel" "sets" "[I", Cond.methodLink RX7 116 yX7_cell, Cond.instanceMethod yX7_cell, Cond.selects RX7 yX7_cell yX7_cell, Cond.code yX7_cell cX7_cell 1 (some .int), Cond.methodLink RX7 126 yX7_inCell, Cond.instanceMethod yX7_inCell, Cond.selects RX7 yX7_inCell yX7_inCell, Cond.code yX7_inCell cX7_inCell 4 (some .int)]
def wsX7_isAsItWas : List Cond := .code yX7_isAsItWas cX7_isAsItWas 4 (some .boolean) :: ((wsX7_isAsItWas_r1 ++ (wsX7_isAsItWas_r2 ++ wsX7_isAsItWas_r3)) ++ wsX70)
def wsX7_lostAtThings_r1 : List Cond := [Cond.fieldLink RX7 7 "JoinedLightModel" "s" "[I", Cond.methodLink RX7 42 yX7_of, Cond.instanceMethod yX7_of, Cond.selects RX7 yX7_of yX7_of, Cond.initialized RX7, Cond.code yX7_of cX7_of 3 (some .int), Cond.methodLink RX7 123 yX7_lostAt, Cond.instanceMethod yX7_lostAt, Cond.selects RX7 yX7_lostAt yX7_lostAt, Cond.code yX7_lostAt cX7_lostAt 4 (some .int), Cond.fieldLink RX7 100 "JoinedLightModel" "why" "I", Cond.fieldLink RX7 94 "JoinedLightModel" "place" "I", Cond.methodLink RX7 112 yX7_follows, Cond.instanceMethod yX7_follows, Cond.selects RX7 yX7_follows yX7_follows, Cond.code yX7_follows cX7_follows 4 none, Cond.fieldLink RX7 88 "JoinedLightModel" "height" "I", Cond.fieldLink RX7 91 "JoinedLightModel" "slope" "I", Cond.methodLink RX7 103 yX7_goes, Cond.instanceMethod yX7_goes, Cond.selects RX7 yX7_goes yX7_goes, Cond.code yX7_goes cX7_goes 2 none, Cond.methodLink RX7 97 yX7_floor, Cond.static yX7_floor]
def wsX7_lostAtThings_r2 : List Cond := [Cond.code yX7_floor cX7_floor 2 (some .int), Cond.methodLink RX7 47 yX7_in, Cond.static yX7_in, Cond.code yX7_in cX7_in 3 (some .boolean), Cond.methodLink RX7 106 yX7_colour, Cond.instanceMethod yX7_colour, Cond.selects RX7 yX7_colour yX7_colour, Cond.code yX7_colour cX7_colour 2 (some .int), Cond.methodLink RX7 109 yX7_bends, Cond.static yX7_bends, Cond.code yX7_bends cX7_bends 2 (some .int), Cond.methodLink RX7 60 yX7_lightOf, Cond.instanceMethod yX7_lightOf, Cond.selects RX7 yX7_lightOf yX7_lightOf, Cond.code yX7_lightOf cX7_lightOf 2 (some .int)]
def wsX7_lostAtThings : List Cond := .code yX7_lostAtThings cX7_lostAtThings 3 (some .int) :: ((wsX7_lostAtThings_r1 ++ wsX7_lostAtThings_r2) ++ wsX70)
def wsX7_count_r1 : List Cond := [Cond.fieldLink RX7 7 "JoinedLightModel" "s" "[I", Cond.fieldLink RX7 38 "JoinedLightModel" "pasts" "I", Cond.fieldLink RX7 168 "JoinedLightModel" "typed" "I", Cond.constant RX7 51 (-1000000001), Cond.methodLink RX7 120 yX7_coming, Cond.instanceMethod yX7_coming, Cond.selects RX7 yX7_coming yX7_coming, Cond.initialized RX7, Cond.code yX7_coming cX7_coming 4 (some .int), Cond.fieldLink RX7 100 "JoinedLightModel" "why" "I", Cond.methodLink RX7 112 yX7_follows, Cond.instanceMethod yX7_follows, Cond.selects RX7 yX7_follows yX7_follows, Cond.code yX7_follows cX7_follows 4 none, Cond.fieldLink RX7 94 "JoinedLightModel" "place" "I", Cond.fieldLink RX7 88 "JoinedLightModel" "height" "I", Cond.fieldLink RX7 91 "JoinedLightModel" "slope" "I", Cond.methodLink RX7 42 yX7_of, Cond.instanceMethod yX7_of, Cond.selects RX7 yX7_of yX7_of, Cond.code yX7_of cX7_of 3 (some .int), Cond.methodLink RX7 103 yX7_goes, Cond.instanceMethod yX7_goes, Cond.selects RX7 yX7_goes yX7_goes]
def wsX7_count_r2 : List Cond := [Cond.code yX7_goes cX7_goes 2 none, Cond.methodLink RX7 97 yX7_floor, Cond.static yX7_floor, Cond.code yX7_floor cX7_floor 2 (some .int), Cond.methodLink RX7 47 yX7_in, Cond.static yX7_in, Cond.code yX7_in cX7_in 3 (some .boolean), Cond.methodLink RX7 106 yX7_colour, Cond.instanceMethod yX7_colour, Cond.selects RX7 yX7_colour yX7_colour, Cond.code yX7_colour cX7_colour 2 (some .int), Cond.methodLink RX7 109 yX7_bends, Cond.static yX7_bends, Cond.code yX7_bends cX7_bends 2 (some .int), Cond.methodLink RX7 146 yX7_spread, Cond.instanceMethod yX7_spread, Cond.selects RX7 yX7_spread yX7_spread, Cond.code yX7_spread cX7_spread 4 (some .int), Cond.methodLink RX7 158 yX7_isJoined, Cond.instanceMethod yX7_isJoined, Cond.selects RX7 yX7_isJoined yX7_isJoined, Cond.code yX7_isJoined cX7_isJoined 1 (some .boolean), Cond.methodLink RX7 149 yX7_allLines, Cond.instanceMethod yX7_allLines]
def wsX7_count_r3 : List Cond := [Cond.selects RX7 yX7_allLines yX7_allLines, Cond.code yX7_allLines cX7_allLines 1 (some .int), Cond.methodLink RX7 132 yX7_laysCells, Cond.instanceMethod yX7_laysCells, Cond.selects RX7 yX7_laysCells yX7_laysCells, Cond.code yX7_laysCells cX7_laysCells 4 (some .int), Cond.fieldLink RX7 25 "JoinedLightModel" "cells" "[I", Cond.fieldLink RX7 28 "JoinedLightModel" "sets" "[I", Cond.methodLink RX7 116 yX7_cell, Cond.instanceMethod yX7_cell, Cond.selects RX7 yX7_cell yX7_cell, Cond.code yX7_cell cX7_cell 1 (some .int), Cond.methodLink RX7 126 yX7_inCell, Cond.instanceMethod yX7_inCell, Cond.selects RX7 yX7_inCell yX7_inCell, Cond.code yX7_inCell cX7_inCell 4 (some .int), Cond.methodLink RX7 162 yX7_isAsItWas, Cond.instanceMethod yX7_isAsItWas, Cond.selects RX7 yX7_isAsItWas yX7_isAsItWas, Cond.code yX7_isAsItWas cX7_isAsItWas 4 (some .boolean), Cond.methodLink RX7 129 yX7_lightIn, Cond.instanceMethod yX7_lightIn, Cond.selects RX7 yX7_lightIn yX7_lightIn, Cond.code yX7_lightIn cX7_lightIn 4 (some .int)]
def wsX7_count_r4 : List Cond := [Cond.methodLink RX7 60 yX7_lightOf, Cond.instanceMethod yX7_lightOf, Cond.selects RX7 yX7_lightOf yX7_lightOf, Cond.code yX7_lightOf cX7_lightOf 2 (some .int), Cond.methodLink RX7 165 yX7_lostAtThings, Cond.instanceMethod yX7_lostAtThings, Cond.selects RX7 yX7_lostAtThings yX7_lostAtThings, Cond.code yX7_lostAtThings cX7_lostAtThings 3 (some .int), Cond.methodLink RX7 123 yX7_lostAt, Cond.instanceMethod yX7_lostAt, Cond.selects RX7 yX7_lostAt yX7_lostAt, Cond.code yX7_lostAt cX7_lostAt 4 (some .int)]
def wsX7_count : List Cond := .code yX7_count cX7_count 2 (some .int) :: ((wsX7_count_r1 ++ (wsX7_count_r2 ++ (wsX7_count_r3 ++ wsX7_count_r4))) ++ wsX70)
def wsX7_undo : List Cond := .code yX7_undo cX7_undo 2 (some .int) :: ([.fieldLink RX7 38 "JoinedLightModel" "pasts" "I", .constant RX7 67 (-1000000002), .fieldLink RX7 7 "JoinedLightModel" "s" "[I", .fieldLink RX7 13 "JoinedLightModel" "past" "[I"] ++ wsX70)
def wsX7_type : List Cond := .code yX7_type cX7_type 2 (some .int) :: ([.constant RX7 51 (-1000000001), .fieldLink RX7 168 "JoinedLightModel" "typed" "I", .constant RX7 52 (-1000000003), .fieldLink RX7 22 "JoinedLightModel" "text" "[I", .methodLink RX7 47 yX7_in, .static yX7_in, .initialized RX7, .code yX7_in cX7_in 3 (some .boolean)] ++ wsX70)
def wsX7_clearText : List Cond := .code yX7_clearText cX7_clearText 2 (some .int) :: ([.fieldLink RX7 168 "JoinedLightModel" "typed" "I"] ++ wsX70)
def wsX7_isAt : List Cond := .code yX7_isAt cX7_isAt 3 (some .boolean) :: ([.fieldLink RX7 171 "JoinedLightModel" "spot" "I", .fieldLink RX7 168 "JoinedLightModel" "typed" "I", .fieldLink RX7 22 "JoinedLightModel" "text" "[I", .methodLink RX7 47 yX7_in, .static yX7_in, .initialized RX7, .code yX7_in cX7_in 3 (some .boolean)] ++ wsX70)
def wsX7_sign : List Cond := .code yX7_sign cX7_sign 3 (some .boolean) :: ([.fieldLink RX7 171 "JoinedLightModel" "spot" "I", .methodLink RX7 174 yX7_isAt, .instanceMethod yX7_isAt, .selects RX7 yX7_isAt yX7_isAt, .initialized RX7, .code yX7_isAt cX7_isAt 3 (some .boolean), .fieldLink RX7 168 "JoinedLightModel" "typed" "I", .fieldLink RX7 22 "JoinedLightModel" "text" "[I", .methodLink RX7 47 yX7_in, .static yX7_in, .code yX7_in cX7_in 3 (some .boolean)] ++ wsX70)
def wsX7_numbered : List Cond := .code yX7_numbered cX7_numbered 3 (some .boolean) :: ([.fieldLink RX7 171 "JoinedLightModel" "spot" "I", .fieldLink RX7 31 "JoinedLightModel" "told" "[I", .fieldLink RX7 22 "JoinedLightModel" "text" "[I", .methodLink RX7 174 yX7_isAt, .instanceMethod yX7_isAt, .selects RX7 yX7_isAt yX7_isAt, .initialized RX7, .code yX7_isAt cX7_isAt 3 (some .boolean), .fieldLink RX7 168 "JoinedLightModel" "typed" "I", .methodLink RX7 47 yX7_in, .static yX7_in, .code yX7_in cX7_in 3 (some .boolean)] ++ wsX70)
def wsX7_numbersOf : List Cond := .code yX7_numbersOf cX7_numbersOf 1 (some .int) :: ([])
def wsX7_reads : List Cond := .code yX7_reads cX7_reads 4 (some .boolean) :: ([.fieldLink RX7 22 "JoinedLightModel" "text" "[I", .fieldLink RX7 171 "JoinedLightModel" "spot" "I", .fieldLink RX7 177 "JoinedLightModel" "order" "I", .methodLink RX7 174 yX7_isAt, .instanceMethod yX7_isAt, .selects RX7 yX7_isAt yX7_isAt, .initialized RX7, .code yX7_isAt cX7_isAt 3 (some .boolean), .fieldLink RX7 168 "JoinedLightModel" "typed" "I", .methodLink RX7 47 yX7_in, .static yX7_in, .code yX7_in cX7_in 3 (some .boolean), .methodLink RX7 180 yX7_numbersOf, .static yX7_numbersOf, .code yX7_numbersOf cX7_numbersOf 1 (some .int), .methodLink RX7 183 yX7_numbered, .instanceMethod yX7_numbered, .selects RX7 yX7_numbered yX7_numbered, .code yX7_numbered cX7_numbered 3 (some .boolean), .fieldLink RX7 31 "JoinedLightModel" "told" "[I", .methodLink RX7 186 yX7_sign, .instanceMethod yX7_sign, .selects RX7 yX7_sign yX7_sign, .code yX7_sign cX7_sign 3 (some .boolean)] ++ wsX70)
def wsX7_calls_r1 : List Cond := [Cond.fieldLink RX7 177 "JoinedLightModel" "order" "I", Cond.fieldLink RX7 31 "JoinedLightModel" "told" "[I", Cond.methodLink RX7 189 yX7_line, Cond.instanceMethod yX7_line, Cond.selects RX7 yX7_line yX7_line, Cond.initialized RX7, Cond.code yX7_line cX7_line 4 (some .int), Cond.constant RX7 51 (-1000000001), Cond.fieldLink RX7 7 "JoinedLightModel" "s" "[I", Cond.constant RX7 52 (-1000000003), Cond.methodLink RX7 47 yX7_in, Cond.static yX7_in, Cond.code yX7_in cX7_in 3 (some .boolean), Cond.methodLink RX7 53 yX7_changes, Cond.instanceMethod yX7_changes, Cond.selects RX7 yX7_changes yX7_changes, Cond.code yX7_changes cX7_changes 2 none, Cond.fieldLink RX7 34 "JoinedLightModel" "runs" "Z", Cond.fieldLink RX7 38 "JoinedLightModel" "pasts" "I", Cond.fieldLink RX7 13 "JoinedLightModel" "past" "[I", Cond.methodLink RX7 192 yX7_prism, Cond.instanceMethod yX7_prism, Cond.selects RX7 yX7_prism yX7_prism, Cond.code yX7_prism cX7_prism 5 (some .int)]
def wsX7_calls_r2 : List Cond := [Cond.methodLink RX7 74 yX7_isPlace, Cond.static yX7_isPlace, Cond.code yX7_isPlace cX7_isPlace 1 (some .boolean), Cond.methodLink RX7 77 yX7_lays, Cond.instanceMethod yX7_lays, Cond.selects RX7 yX7_lays yX7_lays, Cond.code yX7_lays cX7_lays 6 (some .int), Cond.constant RX7 67 (-1000000002), Cond.methodLink RX7 64 yX7_at, Cond.instanceMethod yX7_at, Cond.selects RX7 yX7_at yX7_at, Cond.code yX7_at cX7_at 3 (some .int), Cond.constant RX7 46 (-1000000004), Cond.methodLink RX7 42 yX7_of, Cond.instanceMethod yX7_of, Cond.selects RX7 yX7_of yX7_of, Cond.code yX7_of cX7_of 3 (some .int), Cond.methodLink RX7 68 yX7_opens, Cond.instanceMethod yX7_opens, Cond.selects RX7 yX7_opens yX7_opens, Cond.code yX7_opens cX7_opens 4 (some .int), Cond.methodLink RX7 71 yX7_sets, Cond.instanceMethod yX7_sets, Cond.selects RX7 yX7_sets yX7_sets]
def wsX7_calls_r3 : List Cond := [Cond.code yX7_sets cX7_sets 7 none, Cond.methodLink RX7 196 yX7_slit, Cond.instanceMethod yX7_slit, Cond.selects RX7 yX7_slit yX7_slit, Cond.code yX7_slit cX7_slit 4 (some .int), Cond.methodLink RX7 200 yX7_take, Cond.instanceMethod yX7_take, Cond.selects RX7 yX7_take yX7_take, Cond.code yX7_take cX7_take 3 (some .int), Cond.methodLink RX7 81 yX7_takesOut, Cond.instanceMethod yX7_takesOut, Cond.selects RX7 yX7_takesOut yX7_takesOut, Cond.code yX7_takesOut cX7_takesOut 3 none]
def wsX7_calls : List Cond := .code yX7_calls cX7_calls 1 (some .int) :: ((wsX7_calls_r1 ++ (wsX7_calls_r2 ++ wsX7_calls_r3)) ++ wsX70)
def wsX7_plays_r1 : List Cond := [Cond.fieldLink RX7 34 "JoinedLightModel" "runs" "Z", Cond.fieldLink RX7 171 "JoinedLightModel" "spot" "I", Cond.fieldLink RX7 203 "JoinedLightModel" "from" "I", Cond.fieldLink RX7 206 "JoinedLightModel" "orders" "I", Cond.fieldLink RX7 168 "JoinedLightModel" "typed" "I", Cond.fieldLink RX7 215 "JoinedLightModel" "reason" "I", Cond.fieldLink RX7 218 "JoinedLightModel" "cause" "I", Cond.methodLink RX7 209 yX7_reads, Cond.instanceMethod yX7_reads, Cond.selects RX7 yX7_reads yX7_reads, Cond.initialized RX7, Cond.code yX7_reads cX7_reads 4 (some .boolean), Cond.fieldLink RX7 22 "JoinedLightModel" "text" "[I", Cond.fieldLink RX7 177 "JoinedLightModel" "order" "I", Cond.methodLink RX7 174 yX7_isAt, Cond.instanceMethod yX7_isAt, Cond.selects RX7 yX7_isAt yX7_isAt, Cond.code yX7_isAt cX7_isAt 3 (some .boolean), Cond.methodLink RX7 47 yX7_in, Cond.static yX7_in, Cond.code yX7_in cX7_in 3 (some .boolean), Cond.methodLink RX7 180 yX7_numbersOf, Cond.static yX7_numbersOf, Cond.code yX7_numbersOf cX7_numbersOf 1 (some .int)]
def wsX7_plays_r2 : List Cond := [Cond.methodLink RX7 183 yX7_numbered, Cond.instanceMethod yX7_numbered, Cond.selects RX7 yX7_numbered yX7_numbered, Cond.code yX7_numbered cX7_numbered 3 (some .boolean), Cond.fieldLink RX7 31 "JoinedLightModel" "told" "[I", Cond.methodLink RX7 186 yX7_sign, Cond.instanceMethod yX7_sign, Cond.selects RX7 yX7_sign yX7_sign, Cond.code yX7_sign cX7_sign 3 (some .boolean), Cond.methodLink RX7 212 yX7_calls, Cond.instanceMethod yX7_calls, Cond.selects RX7 yX7_calls yX7_calls, Cond.code yX7_calls cX7_calls 1 (some .int), Cond.methodLink RX7 189 yX7_line, Cond.instanceMethod yX7_line, Cond.selects RX7 yX7_line yX7_line, Cond.code yX7_line cX7_line 4 (some .int), Cond.constant RX7 51 (-1000000001), Cond.fieldLink RX7 7 "JoinedLightModel" "s" "[I", Cond.constant RX7 52 (-1000000003), Cond.methodLink RX7 53 yX7_changes, Cond.instanceMethod yX7_changes, Cond.selects RX7 yX7_changes yX7_changes, Cond.code yX7_changes cX7_changes 2 none]
def wsX7_plays_r3 : List Cond := [Cond.fieldLink RX7 38 "JoinedLightModel" "pasts" "I", Cond.fieldLink RX7 13 "JoinedLightModel" "past" "[I", Cond.methodLink RX7 192 yX7_prism, Cond.instanceMethod yX7_prism, Cond.selects RX7 yX7_prism yX7_prism, Cond.code yX7_prism cX7_prism 5 (some .int), Cond.methodLink RX7 74 yX7_isPlace, Cond.static yX7_isPlace, Cond.code yX7_isPlace cX7_isPlace 1 (some .boolean), Cond.methodLink RX7 77 yX7_lays, Cond.instanceMethod yX7_lays, Cond.selects RX7 yX7_lays yX7_lays, Cond.code yX7_lays cX7_lays 6 (some .int), Cond.constant RX7 67 (-1000000002), Cond.methodLink RX7 64 yX7_at, Cond.instanceMethod yX7_at, Cond.selects RX7 yX7_at yX7_at, Cond.code yX7_at cX7_at 3 (some .int), Cond.constant RX7 46 (-1000000004), Cond.methodLink RX7 42 yX7_of, Cond.instanceMethod yX7_of, Cond.selects RX7 yX7_of yX7_of, Cond.code yX7_of cX7_of 3 (some .int), Cond.methodLink RX7 68 yX7_opens]
def wsX7_plays_r4 : List Cond := [Cond.instanceMethod yX7_opens, Cond.selects RX7 yX7_opens yX7_opens, Cond.code yX7_opens cX7_opens 4 (some .int), Cond.methodLink RX7 71 yX7_sets, Cond.instanceMethod yX7_sets, Cond.selects RX7 yX7_sets yX7_sets, Cond.code yX7_sets cX7_sets 7 none, Cond.methodLink RX7 196 yX7_slit, Cond.instanceMethod yX7_slit, Cond.selects RX7 yX7_slit yX7_slit, Cond.code yX7_slit cX7_slit 4 (some .int), Cond.methodLink RX7 200 yX7_take, Cond.instanceMethod yX7_take, Cond.selects RX7 yX7_take yX7_take, Cond.code yX7_take cX7_take 3 (some .int), Cond.methodLink RX7 81 yX7_takesOut, Cond.instanceMethod yX7_takesOut, Cond.selects RX7 yX7_takesOut yX7_takesOut, Cond.code yX7_takesOut cX7_takesOut 3 none]
def wsX7_plays : List Cond := .code yX7_plays cX7_plays 4 (some .boolean) :: ((wsX7_plays_r1 ++ (wsX7_plays_r2 ++ (wsX7_plays_r3 ++ wsX7_plays_r4))) ++ wsX70)
def wsX7_fault_r1 : List Cond := [Cond.constant RX7 51 (-1000000001), Cond.fieldLink RX7 7 "JoinedLightModel" "s" "[I", Cond.fieldLink RX7 16 "JoinedLightModel" "held" "[I", Cond.constant RX7 46 (-1000000004), Cond.fieldLink RX7 203 "JoinedLightModel" "from" "I", Cond.fieldLink RX7 215 "JoinedLightModel" "reason" "I", Cond.fieldLink RX7 218 "JoinedLightModel" "cause" "I", Cond.methodLink RX7 47 yX7_in, Cond.static yX7_in, Cond.initialized RX7, Cond.code yX7_in cX7_in 3 (some .boolean), Cond.methodLink RX7 139 yX7_copies, Cond.static yX7_copies, Cond.code yX7_copies cX7_copies 3 none, Cond.methodLink RX7 221 yX7_plays, Cond.instanceMethod yX7_plays, Cond.selects RX7 yX7_plays yX7_plays, Cond.code yX7_plays cX7_plays 4 (some .boolean), Cond.fieldLink RX7 34 "JoinedLightModel" "runs" "Z", Cond.fieldLink RX7 171 "JoinedLightModel" "spot" "I", Cond.fieldLink RX7 206 "JoinedLightModel" "orders" "I", Cond.fieldLink RX7 168 "JoinedLightModel" "typed" "I", Cond.methodLink RX7 209 yX7_reads, Cond.instanceMethod yX7_reads]
def wsX7_fault_r2 : List Cond := [Cond.selects RX7 yX7_reads yX7_reads, Cond.code yX7_reads cX7_reads 4 (some .boolean), Cond.fieldLink RX7 22 "JoinedLightModel" "text" "[I", Cond.fieldLink RX7 177 "JoinedLightModel" "order" "I", Cond.methodLink RX7 174 yX7_isAt, Cond.instanceMethod yX7_isAt, Cond.selects RX7 yX7_isAt yX7_isAt, Cond.code yX7_isAt cX7_isAt 3 (some .boolean), Cond.methodLink RX7 180 yX7_numbersOf, Cond.static yX7_numbersOf, Cond.code yX7_numbersOf cX7_numbersOf 1 (some .int), Cond.methodLink RX7 183 yX7_numbered, Cond.instanceMethod yX7_numbered, Cond.selects RX7 yX7_numbered yX7_numbered, Cond.code yX7_numbered cX7_numbered 3 (some .boolean), Cond.fieldLink RX7 31 "JoinedLightModel" "told" "[I", Cond.methodLink RX7 186 yX7_sign, Cond.instanceMethod yX7_sign, Cond.selects RX7 yX7_sign yX7_sign, Cond.code yX7_sign cX7_sign 3 (some .boolean), Cond.methodLink RX7 212 yX7_calls, Cond.instanceMethod yX7_calls, Cond.selects RX7 yX7_calls yX7_calls, Cond.code yX7_calls cX7_calls 1 (some .int)]
def wsX7_fault_r3 : List Cond := [Cond.methodLink RX7 189 yX7_line, Cond.instanceMethod yX7_line, Cond.selects RX7 yX7_line yX7_line, Cond.code yX7_line cX7_line 4 (some .int), Cond.constant RX7 52 (-1000000003), Cond.methodLink RX7 53 yX7_changes, Cond.instanceMethod yX7_changes, Cond.selects RX7 yX7_changes yX7_changes, Cond.code yX7_changes cX7_changes 2 none, Cond.fieldLink RX7 38 "JoinedLightModel" "pasts" "I", Cond.fieldLink RX7 13 "JoinedLightModel" "past" "[I", Cond.methodLink RX7 192 yX7_prism, Cond.instanceMethod yX7_prism, Cond.selects RX7 yX7_prism yX7_prism, Cond.code yX7_prism cX7_prism 5 (some .int), Cond.methodLink RX7 74 yX7_isPlace, Cond.static yX7_isPlace, Cond.code yX7_isPlace cX7_isPlace 1 (some .boolean), Cond.methodLink RX7 77 yX7_lays, Cond.instanceMethod yX7_lays, Cond.selects RX7 yX7_lays yX7_lays, Cond.code yX7_lays cX7_lays 6 (some .int), Cond.constant RX7 67 (-1000000002), Cond.methodLink RX7 64 yX7_at]
def wsX7_fault_r4 : List Cond := [Cond.instanceMethod yX7_at, Cond.selects RX7 yX7_at yX7_at, Cond.code yX7_at cX7_at 3 (some .int), Cond.methodLink RX7 42 yX7_of, Cond.instanceMethod yX7_of, Cond.selects RX7 yX7_of yX7_of, Cond.code yX7_of cX7_of 3 (some .int), Cond.methodLink RX7 68 yX7_opens, Cond.instanceMethod yX7_opens, Cond.selects RX7 yX7_opens yX7_opens, Cond.code yX7_opens cX7_opens 4 (some .int), Cond.methodLink RX7 71 yX7_sets, Cond.instanceMethod yX7_sets, Cond.selects RX7 yX7_sets yX7_sets, Cond.code yX7_sets cX7_sets 7 none, Cond.methodLink RX7 196 yX7_slit, Cond.instanceMethod yX7_slit, Cond.selects RX7 yX7_slit yX7_slit, Cond.code yX7_slit cX7_slit 4 (some .int), Cond.methodLink RX7 200 yX7_take, Cond.instanceMethod yX7_take, Cond.selects RX7 yX7_take yX7_take, Cond.code yX7_take cX7_take 3 (some .int), Cond.methodLink RX7 81 yX7_takesOut]
def wsX7_fault_r5 : List Cond := [Cond.instanceMethod yX7_takesOut, Cond.selects RX7 yX7_takesOut yX7_takesOut, Cond.code yX7_takesOut cX7_takesOut 3 none]
def wsX7_fault : List Cond := .code yX7_fault cX7_fault 3 (some .int) :: ((wsX7_fault_r1 ++ (wsX7_fault_r2 ++ (wsX7_fault_r3 ++ (wsX7_fault_r4 ++ wsX7_fault_r5)))) ++ wsX70)
def wsX7_play_r1 : List Cond := [Cond.fieldLink RX7 7 "JoinedLightModel" "s" "[I", Cond.fieldLink RX7 16 "JoinedLightModel" "held" "[I", Cond.constant RX7 67 (-1000000002), Cond.fieldLink RX7 206 "JoinedLightModel" "orders" "I", Cond.constant RX7 46 (-1000000004), Cond.methodLink RX7 139 yX7_copies, Cond.static yX7_copies, Cond.initialized RX7, Cond.code yX7_copies cX7_copies 3 none, Cond.methodLink RX7 221 yX7_plays, Cond.instanceMethod yX7_plays, Cond.selects RX7 yX7_plays yX7_plays, Cond.code yX7_plays cX7_plays 4 (some .boolean), Cond.fieldLink RX7 34 "JoinedLightModel" "runs" "Z", Cond.fieldLink RX7 171 "JoinedLightModel" "spot" "I", Cond.fieldLink RX7 203 "JoinedLightModel" "from" "I", Cond.fieldLink RX7 168 "JoinedLightModel" "typed" "I", Cond.fieldLink RX7 215 "JoinedLightModel" "reason" "I", Cond.fieldLink RX7 218 "JoinedLightModel" "cause" "I", Cond.methodLink RX7 209 yX7_reads, Cond.instanceMethod yX7_reads, Cond.selects RX7 yX7_reads yX7_reads, Cond.code yX7_reads cX7_reads 4 (some .boolean), Cond.fieldLink RX7 22 "JoinedLightModel" "text" "[I"]
def wsX7_play_r2 : List Cond := [Cond.fieldLink RX7 177 "JoinedLightModel" "order" "I", Cond.methodLink RX7 174 yX7_isAt, Cond.instanceMethod yX7_isAt, Cond.selects RX7 yX7_isAt yX7_isAt, Cond.code yX7_isAt cX7_isAt 3 (some .boolean), Cond.methodLink RX7 47 yX7_in, Cond.static yX7_in, Cond.code yX7_in cX7_in 3 (some .boolean), Cond.methodLink RX7 180 yX7_numbersOf, Cond.static yX7_numbersOf, Cond.code yX7_numbersOf cX7_numbersOf 1 (some .int), Cond.methodLink RX7 183 yX7_numbered, Cond.instanceMethod yX7_numbered, Cond.selects RX7 yX7_numbered yX7_numbered, Cond.code yX7_numbered cX7_numbered 3 (some .boolean), Cond.fieldLink RX7 31 "JoinedLightModel" "told" "[I", Cond.methodLink RX7 186 yX7_sign, Cond.instanceMethod yX7_sign, Cond.selects RX7 yX7_sign yX7_sign, Cond.code yX7_sign cX7_sign 3 (some .boolean), Cond.methodLink RX7 212 yX7_calls, Cond.instanceMethod yX7_calls, Cond.selects RX7 yX7_calls yX7_calls, Cond.code yX7_calls cX7_calls 1 (some .int)]
def wsX7_play_r3 : List Cond := [Cond.methodLink RX7 189 yX7_line, Cond.instanceMethod yX7_line, Cond.selects RX7 yX7_line yX7_line, Cond.code yX7_line cX7_line 4 (some .int), Cond.constant RX7 51 (-1000000001), Cond.constant RX7 52 (-1000000003), Cond.methodLink RX7 53 yX7_changes, Cond.instanceMethod yX7_changes, Cond.selects RX7 yX7_changes yX7_changes, Cond.code yX7_changes cX7_changes 2 none, Cond.fieldLink RX7 38 "JoinedLightModel" "pasts" "I", Cond.fieldLink RX7 13 "JoinedLightModel" "past" "[I", Cond.methodLink RX7 192 yX7_prism, Cond.instanceMethod yX7_prism, Cond.selects RX7 yX7_prism yX7_prism, Cond.code yX7_prism cX7_prism 5 (some .int), Cond.methodLink RX7 74 yX7_isPlace, Cond.static yX7_isPlace, Cond.code yX7_isPlace cX7_isPlace 1 (some .boolean), Cond.methodLink RX7 77 yX7_lays, Cond.instanceMethod yX7_lays, Cond.selects RX7 yX7_lays yX7_lays, Cond.code yX7_lays cX7_lays 6 (some .int), Cond.methodLink RX7 64 yX7_at]
def wsX7_play_r4 : List Cond := [Cond.instanceMethod yX7_at, Cond.selects RX7 yX7_at yX7_at, Cond.code yX7_at cX7_at 3 (some .int), Cond.methodLink RX7 42 yX7_of, Cond.instanceMethod yX7_of, Cond.selects RX7 yX7_of yX7_of, Cond.code yX7_of cX7_of 3 (some .int), Cond.methodLink RX7 68 yX7_opens, Cond.instanceMethod yX7_opens, Cond.selects RX7 yX7_opens yX7_opens, Cond.code yX7_opens cX7_opens 4 (some .int), Cond.methodLink RX7 71 yX7_sets, Cond.instanceMethod yX7_sets, Cond.selects RX7 yX7_sets yX7_sets, Cond.code yX7_sets cX7_sets 7 none, Cond.methodLink RX7 196 yX7_slit, Cond.instanceMethod yX7_slit, Cond.selects RX7 yX7_slit yX7_slit, Cond.code yX7_slit cX7_slit 4 (some .int), Cond.methodLink RX7 200 yX7_take, Cond.instanceMethod yX7_take, Cond.selects RX7 yX7_take yX7_take, Cond.code yX7_take cX7_take 3 (some .int), Cond.methodLink RX7 81 yX7_takesOut]
def wsX7_play_r5 : List Cond := [Cond.instanceMethod yX7_takesOut, Cond.selects RX7 yX7_takesOut yX7_takesOut, Cond.code yX7_takesOut cX7_takesOut 3 none]
def wsX7_play : List Cond := .code yX7_play cX7_play 2 (some .int) :: ((wsX7_play_r1 ++ (wsX7_play_r2 ++ (wsX7_play_r3 ++ (wsX7_play_r4 ++ wsX7_play_r5)))) ++ wsX70)
def wsJ9_max_7cf53 : List Cond := .code yJ9_max_7cf53 cJ9_max_7cf53 2 (some .int) :: ([])
def wsJ9_min_7cf53 : List Cond := .code yJ9_min_7cf53 cJ9_min_7cf53 2 (some .int) :: ([])
def wsL_law_r1 : List Cond := [Cond.classLink RL 7 RX6, Cond.instantiable RX6 11, Cond.initialized RX6, Cond.classLink RL 10 RX7, Cond.instantiable RX7 21, Cond.initialized RX7, Cond.methodLink RL 9 yX6_init, Cond.instanceMethod yX6_init, Cond.code yX6_init cX6_init 1 none, Cond.methodLink RX6 1 objectInit, Cond.instanceMethod objectInit, Cond.code objectInit ⟨#[0xb1]⟩ 1 none, Cond.classLink RX6 7 RX0, Cond.instantiable RX0 10, Cond.initialized RX0, Cond.fieldLink RX6 10 "JoinedLight" "bench" "LJoinedLight$Bench;", Cond.fieldLink RX6 16 "JoinedLight" "trial" "LJoinedLight$Bench;", Cond.classLink RX6 19 RX4, Cond.instantiable RX4 5, Cond.initialized RX4, Cond.fieldLink RX6 22 "JoinedLight" "rays" "LJoinedLight$Rays;", Cond.classLink RX6 26 RX1, Cond.instantiable RX1 4, Cond.initialized RX1]
def wsL_law_r2 : List Cond := [Cond.fieldLink RX6 29 "JoinedLight" "cells" "LJoinedLight$Cells;", Cond.classLink RX6 33 RX2, Cond.instantiable RX2 3, Cond.initialized RX2, Cond.fieldLink RX6 36 "JoinedLight" "choice" "LJoinedLight$Choice;", Cond.classLink RX6 40 RX3, Cond.instantiable RX3 2, Cond.initialized RX3, Cond.fieldLink RX6 43 "JoinedLight" "history" "LJoinedLight$History;", Cond.classLink RX6 47 RX5, Cond.instantiable RX5 5, Cond.initialized RX5, Cond.fieldLink RX6 50 "JoinedLight" "text" "LJoinedLight$Text;", Cond.instanceMethod yX0_init, Cond.code yX0_init cX0_init 1 none, Cond.methodLink RX0 3 objectInit, Cond.arrayClass .int, Cond.fieldLink RX0 9 "JoinedLight$Bench" "colours" "[I", Cond.fieldLink RX0 15 "JoinedLight$Bench" "lights" "[I", Cond.fieldLink RX0 18 "JoinedLight$Bench" "lineCount" "I", Cond.fieldLink RX0 22 "JoinedLight$Bench" "places" "[I", Cond.fieldLink RX0 25 "JoinedLight$Bench" "kinds" "[I", Cond.fieldLink RX0 28 "JoinedLight$Bench" "firsts" "[I", Cond.fieldLink RX0 31 "JoinedLight$Bench" "seconds" "[I"]
def wsL_law_r3 : List Cond := [Cond.fieldLink RX0 34 "JoinedLight$Bench" "turns" "[I", Cond.fieldLink RX0 37 "JoinedLight$Bench" "thingCount" "I", Cond.fieldLink RX0 40 "JoinedLight$Bench" "cellWidth" "I", Cond.instanceMethod yX4_init, Cond.code yX4_init cX4_init 1 none, Cond.methodLink RX4 3 objectInit, Cond.fieldLink RX4 9 "JoinedLight$Rays" "heights" "[I", Cond.fieldLink RX4 15 "JoinedLight$Rays" "slopes" "[I", Cond.fieldLink RX4 18 "JoinedLight$Rays" "lostAt" "[I", Cond.fieldLink RX4 21 "JoinedLight$Rays" "lostWhy" "[I", Cond.fieldLink RX4 24 "JoinedLight$Rays" "followed" "I", Cond.instanceMethod yX1_init, Cond.code yX1_init cX1_init 1 none, Cond.methodLink RX1 3 objectInit, Cond.fieldLink RX1 9 "JoinedLight$Cells" "numbers" "[I", Cond.fieldLink RX1 15 "JoinedLight$Cells" "lights" "[I", Cond.fieldLink RX1 18 "JoinedLight$Cells" "lines" "[I", Cond.fieldLink RX1 21 "JoinedLight$Cells" "used" "I", Cond.instanceMethod yX2_init, Cond.code yX2_init cX2_init 1 none, Cond.methodLink RX2 1 objectInit, Cond.fieldLink RX2 7 "JoinedLight$Choice" "value" "I", Cond.fieldLink RX2 13 "JoinedLight$Choice" "arrivals" "I", Cond.fieldLink RX2 16 "JoinedLight$Choice" "spread" "I"]
def wsL_law_r4 : List Cond := [Cond.instanceMethod yX3_init, Cond.code yX3_init cX3_init 1 none, Cond.methodLink RX3 3 objectInit, Cond.classLink RX3 9 RX0, Cond.fieldLink RX3 11 "JoinedLight$History" "rooms" "[LJoinedLight$Bench;", Cond.fieldLink RX3 17 "JoinedLight$History" "states" "I", Cond.instanceMethod yX5_init, Cond.code yX5_init cX5_init 1 none, Cond.methodLink RX5 3 objectInit, Cond.arrayClass .char, Cond.fieldLink RX5 9 "JoinedLight$Text" "signs" "[C", Cond.fieldLink RX5 15 "JoinedLight$Text" "length" "I", Cond.fieldLink RX5 19 "JoinedLight$Text" "letter" "C", Cond.fieldLink RX5 23 "JoinedLight$Text" "numbers" "[I", Cond.fieldLink RX5 27 "JoinedLight$Text" "next" "I", Cond.methodLink RL 12 yX7_init, Cond.instanceMethod yX7_init, Cond.code yX7_init cX7_init 1 none, Cond.methodLink RX7 1 objectInit, Cond.fieldLink RX7 7 "JoinedLightModel" "s" "[I", Cond.fieldLink RX7 13 "JoinedLightModel" "past" "[I", Cond.fieldLink RX7 16 "JoinedLightModel" "held" "[I", Cond.fieldLink RX7 19 "JoinedLightModel" "tried" "[I", Cond.fieldLink RX7 22 "JoinedLightModel" "text" "[I"]
def wsL_law_r5 : List Cond := [Cond.fieldLink RX7 25 "JoinedLightModel" "cells" "[I", Cond.fieldLink RX7 28 "JoinedLightModel" "sets" "[I", Cond.fieldLink RX7 31 "JoinedLightModel" "told" "[I", Cond.methodLink RL 13 yX6_line, Cond.instanceMethod yX6_line, Cond.selects RX6 yX6_line yX6_line, Cond.code yX6_line cX6_line 3 (some .int), Cond.methodLink RX6 54 yX0_copyFrom, Cond.instanceMethod yX0_copyFrom, Cond.selects RX0 yX0_copyFrom yX0_copyFrom, Cond.code yX0_copyFrom cX0_copyFrom 2 none, Cond.methodLink RX0 43 arraycopyName, Cond.native arraycopyName, Cond.static arraycopyName, Cond.initialized "java/lang/System", Cond.methodLink RX6 58 yX0_addLine, Cond.instanceMethod yX0_addLine, Cond.selects RX0 yX0_addLine yX0_addLine, Cond.code yX0_addLine cX0_addLine 4 (some .int), Cond.constant RX0 66 (-1000000001), Cond.constant RX0 67 (-1000000003), Cond.static yX6_within, Cond.code yX6_within cX6_within 3 (some .boolean), Cond.methodLink RX6 62 yX6_keepTrial]
def wsL_law_r6 : List Cond := [Cond.instanceMethod yX6_keepTrial, Cond.selects RX6 yX6_keepTrial yX6_keepTrial, Cond.code yX6_keepTrial cX6_keepTrial 2 (some .int), Cond.methodLink RX6 263 yX3_record, Cond.instanceMethod yX3_record, Cond.selects RX3 yX3_record yX3_record, Cond.code yX3_record cX3_record 3 none, Cond.methodLink RX3 21 yX3_dropOldest, Cond.instanceMethod yX3_dropOldest, Cond.selects RX3 yX3_dropOldest yX3_dropOldest, Cond.code yX3_dropOldest cX3_dropOldest 3 none, Cond.methodLink RX3 25 yX0_copyFrom, Cond.methodLink RL 17 yX7_line, Cond.instanceMethod yX7_line, Cond.selects RX7 yX7_line yX7_line, Cond.code yX7_line cX7_line 4 (some .int), Cond.constant RX7 51 (-1000000001), Cond.constant RX7 52 (-1000000003), Cond.methodLink RX7 47 yX7_in, Cond.static yX7_in, Cond.code yX7_in cX7_in 3 (some .boolean), Cond.methodLink RX7 53 yX7_changes, Cond.instanceMethod yX7_changes, Cond.selects RX7 yX7_changes yX7_changes]
def wsL_law_r7 : List Cond := [Cond.code yX7_changes cX7_changes 2 none, Cond.fieldLink RX7 34 "JoinedLightModel" "runs" "Z", Cond.fieldLink RX7 38 "JoinedLightModel" "pasts" "I", Cond.methodLink RL 18 yX6_dim, Cond.instanceMethod yX6_dim, Cond.selects RX6 yX6_dim yX6_dim, Cond.code yX6_dim cX6_dim 3 (some .int), Cond.methodLink RX6 66 yX0_changeLight, Cond.instanceMethod yX0_changeLight, Cond.selects RX0 yX0_changeLight yX0_changeLight, Cond.code yX0_changeLight cX0_changeLight 4 (some .int), Cond.methodLink RX0 59 yX0_hasLine, Cond.instanceMethod yX0_hasLine, Cond.selects RX0 yX0_hasLine yX0_hasLine, Cond.code yX0_hasLine cX0_hasLine 2 (some .boolean), Cond.methodLink RL 21 yX7_dim, Cond.instanceMethod yX7_dim, Cond.selects RX7 yX7_dim yX7_dim, Cond.code yX7_dim cX7_dim 4 (some .int), Cond.methodLink RX7 56 yX7_isLine, Cond.instanceMethod yX7_isLine, Cond.selects RX7 yX7_isLine yX7_isLine, Cond.code yX7_isLine cX7_isLine 2 (some .boolean), Cond.methodLink RX7 60 yX7_lightOf]
def wsL_law_r8 : List Cond := [Cond.instanceMethod yX7_lightOf, Cond.selects RX7 yX7_lightOf yX7_lightOf, Cond.code yX7_lightOf cX7_lightOf 2 (some .int), Cond.methodLink RL 22 yX6_prism, Cond.instanceMethod yX6_prism, Cond.selects RX6 yX6_prism yX6_prism, Cond.code yX6_prism cX6_prism 5 (some .int), Cond.methodLink RX6 69 yX0_addPrism, Cond.instanceMethod yX0_addPrism, Cond.selects RX0 yX0_addPrism yX0_addPrism, Cond.code yX0_addPrism cX0_addPrism 6 (some .int), Cond.methodLink RX0 68 yX0_addThing, Cond.instanceMethod yX0_addThing, Cond.selects RX0 yX0_addThing yX0_addThing, Cond.code yX0_addThing cX0_addThing 8 (some .int), Cond.constant RX0 76 (-1000000002), Cond.methodLink RX0 72 yX0_indexOf, Cond.instanceMethod yX0_indexOf, Cond.selects RX0 yX0_indexOf yX0_indexOf, Cond.code yX0_indexOf cX0_indexOf 3 (some .int), Cond.methodLink RX0 49 yX0_hasThing, Cond.instanceMethod yX0_hasThing, Cond.selects RX0 yX0_hasThing yX0_hasThing, Cond.code yX0_hasThing cX0_hasThing 2 (some .boolean)]
def wsL_law_r9 : List Cond := [Cond.methodLink RX0 77 yX0_thingsAhead, Cond.instanceMethod yX0_thingsAhead, Cond.selects RX0 yX0_thingsAhead yX0_thingsAhead, Cond.code yX0_thingsAhead cX0_thingsAhead 3 (some .int), Cond.methodLink RX0 80 yX0_copyThing, Cond.instanceMethod yX0_copyThing, Cond.selects RX0 yX0_copyThing yX0_copyThing, Cond.code yX0_copyThing cX0_copyThing 3 none, Cond.methodLink RL 26 yX7_prism, Cond.instanceMethod yX7_prism, Cond.selects RX7 yX7_prism yX7_prism, Cond.code yX7_prism cX7_prism 5 (some .int), Cond.methodLink RX7 74 yX7_isPlace, Cond.static yX7_isPlace, Cond.code yX7_isPlace cX7_isPlace 1 (some .boolean), Cond.methodLink RX7 77 yX7_lays, Cond.instanceMethod yX7_lays, Cond.selects RX7 yX7_lays yX7_lays, Cond.code yX7_lays cX7_lays 6 (some .int), Cond.constant RX7 67 (-1000000002), Cond.methodLink RX7 64 yX7_at, Cond.instanceMethod yX7_at, Cond.selects RX7 yX7_at yX7_at, Cond.code yX7_at cX7_at 3 (some .int)]
def wsL_law_r10 : List Cond := [Cond.constant RX7 46 (-1000000004), Cond.methodLink RX7 42 yX7_of, Cond.instanceMethod yX7_of, Cond.selects RX7 yX7_of yX7_of, Cond.code yX7_of cX7_of 3 (some .int), Cond.methodLink RX7 68 yX7_opens, Cond.instanceMethod yX7_opens, Cond.selects RX7 yX7_opens yX7_opens, Cond.code yX7_opens cX7_opens 4 (some .int), Cond.methodLink RX7 71 yX7_sets, Cond.instanceMethod yX7_sets, Cond.selects RX7 yX7_sets yX7_sets, Cond.code yX7_sets cX7_sets 7 none, Cond.methodLink RL 27 yX6_slit, Cond.instanceMethod yX6_slit, Cond.selects RX6 yX6_slit yX6_slit, Cond.code yX6_slit cX6_slit 4 (some .int), Cond.methodLink RX6 73 yX0_addSlit, Cond.instanceMethod yX0_addSlit, Cond.selects RX0 yX0_addSlit yX0_addSlit, Cond.code yX0_addSlit cX0_addSlit 5 (some .int), Cond.methodLink RL 31 yX7_slit, Cond.instanceMethod yX7_slit, Cond.selects RX7 yX7_slit yX7_slit]
def wsL_law_r11 : List Cond := [Cond.code yX7_slit cX7_slit 4 (some .int), Cond.methodLink RL 32 yX6_take, Cond.instanceMethod yX6_take, Cond.selects RX6 yX6_take yX6_take, Cond.code yX6_take cX6_take 2 (some .int), Cond.methodLink RX6 77 yX0_removeThing, Cond.instanceMethod yX0_removeThing, Cond.selects RX0 yX0_removeThing yX0_removeThing, Cond.code yX0_removeThing cX0_removeThing 4 (some .int), Cond.methodLink RL 36 yX7_take, Cond.instanceMethod yX7_take, Cond.selects RX7 yX7_take yX7_take, Cond.code yX7_take cX7_take 3 (some .int), Cond.methodLink RX7 81 yX7_takesOut, Cond.instanceMethod yX7_takesOut, Cond.selects RX7 yX7_takesOut yX7_takesOut, Cond.code yX7_takesOut cX7_takesOut 3 none, Cond.methodLink RL 37 yX6_move, Cond.instanceMethod yX6_move, Cond.selects RX6 yX6_move yX6_move, Cond.code yX6_move cX6_move 3 (some .int), Cond.methodLink RX6 80 yX0_moveThing, Cond.instanceMethod yX0_moveThing, Cond.selects RX0 yX0_moveThing yX0_moveThing]
def wsL_law_r12 : List Cond := [Cond.code yX0_moveThing cX0_moveThing 8 (some .int), Cond.methodLink RX0 84 yX0_removeThing, Cond.methodLink RL 40 yX7_move, Cond.instanceMethod yX7_move, Cond.selects RX7 yX7_move yX7_move, Cond.code yX7_move cX7_move 4 (some .int), Cond.methodLink RX7 85 yX7_moves, Cond.instanceMethod yX7_moves, Cond.selects RX7 yX7_moves yX7_moves, Cond.code yX7_moves cX7_moves 8 (some .int), Cond.methodLink RL 41 yX6_set, Cond.instanceMethod yX6_set, Cond.selects RX6 yX6_set yX6_set, Cond.code yX6_set cX6_set 3 (some .int), Cond.methodLink RX6 83 yX0_changeSetting, Cond.instanceMethod yX0_changeSetting, Cond.selects RX0 yX0_changeSetting yX0_changeSetting, Cond.code yX0_changeSetting cX0_changeSetting 4 (some .int), Cond.methodLink RL 44 yX7_set, Cond.instanceMethod yX7_set, Cond.selects RX7 yX7_set yX7_set, Cond.code yX7_set cX7_set 4 (some .int), Cond.methodLink RL 45 yX6_lineOf, Cond.instanceMethod yX6_lineOf]
def wsL_law_r13 : List Cond := [Cond.selects RX6 yX6_lineOf yX6_lineOf, Cond.code yX6_lineOf cX6_lineOf 4 (some .int), Cond.constant RX6 94 (-1000000001), Cond.fieldLink RX6 101 "JoinedLight$Bench" "colours" "[I", Cond.fieldLink RX6 105 "JoinedLight$Bench" "lights" "[I", Cond.fieldLink RX6 112 "JoinedLight$Rays" "heights" "[I", Cond.constant RX6 115 (-1000000004), Cond.fieldLink RX6 116 "JoinedLight$Rays" "slopes" "[I", Cond.fieldLink RX6 122 "JoinedLight$Rays" "lostAt" "[I", Cond.fieldLink RX6 125 "JoinedLight$Rays" "lostWhy" "[I", Cond.methodLink RX6 86 yX0_hasLine, Cond.methodLink RX6 90 yX6_within, Cond.methodLink RX6 95 yX4_follow, Cond.instanceMethod yX4_follow, Cond.selects RX4 yX4_follow yX4_follow, Cond.code yX4_follow cX4_follow 3 none, Cond.fieldLink RX4 38 "JoinedLight$Bench" "lineCount" "I", Cond.methodLink RX4 28 yX0_hasLine, Cond.methodLink RX4 34 yX4_followLine, Cond.instanceMethod yX4_followLine, Cond.selects RX4 yX4_followLine yX4_followLine, Cond.code yX4_followLine cX4_followLine 10 none, Cond.fieldLink RX4 41 "JoinedLight$Bench" "colours" "[I", Cond.fieldLink RX4 47 "JoinedLight$Bench" "places" "[I"]
def wsL_law_r14 : List Cond := [Cond.methodLink RX4 44 yX0_hasThing, Cond.methodLink RX4 50 yX4_rise, Cond.static yX4_rise, Cond.code yX4_rise cX4_rise 2 (some .int), Cond.methodLink RX4 67 yJ9_floorDiv_7cf53, Cond.static yJ9_floorDiv_7cf53, Cond.initialized RJ9, Cond.code yJ9_floorDiv_7cf53 cJ9_floorDiv_7cf53 3 (some .int), Cond.methodLink RX4 54 yX0_whyLostAt, Cond.instanceMethod yX0_whyLostAt, Cond.selects RX0 yX0_whyLostAt yX0_whyLostAt, Cond.code yX0_whyLostAt cX0_whyLostAt 4 (some .int), Cond.methodLink RX0 90 yX0_isBeyond, Cond.static yX0_isBeyond, Cond.code yX0_isBeyond cX0_isBeyond 1 (some .boolean), Cond.methodLink RX4 57 yX4_finish, Cond.instanceMethod yX4_finish, Cond.selects RX4 yX4_finish yX4_finish, Cond.code yX4_finish cX4_finish 4 none, Cond.methodLink RX4 61 yX0_bendAt, Cond.instanceMethod yX0_bendAt, Cond.selects RX0 yX0_bendAt yX0_bendAt, Cond.code yX0_bendAt cX0_bendAt 4 (some .int), Cond.static yX6_bendingOf]
def wsL_law_r15 : List Cond := [Cond.code yX6_bendingOf cX6_bendingOf 3 (some .int), Cond.methodLink RX6 258 yJ9_floorDiv_7cf53, Cond.methodLink RX0 53 yJ9_floorDiv_7cf53, Cond.methodLink RX4 64 yX0_isBeyond, Cond.methodLink RX6 98 yX4_comes, Cond.instanceMethod yX4_comes, Cond.selects RX4 yX4_comes yX4_comes, Cond.code yX4_comes cX4_comes 2 (some .boolean), Cond.methodLink RX6 108 yX6_oneIf, Cond.static yX6_oneIf, Cond.code yX6_oneIf cX6_oneIf 1 (some .int), Cond.methodLink RX6 119 yX0_cellOf, Cond.instanceMethod yX0_cellOf, Cond.selects RX0 yX0_cellOf yX0_cellOf, Cond.code yX0_cellOf cX0_cellOf 2 (some .int), Cond.methodLink RL 48 yX7_lineOf, Cond.instanceMethod yX7_lineOf, Cond.selects RX7 yX7_lineOf yX7_lineOf, Cond.code yX7_lineOf cX7_lineOf 3 (some .int), Cond.fieldLink RX7 100 "JoinedLightModel" "why" "I", Cond.fieldLink RX7 88 "JoinedLightModel" "height" "I", Cond.fieldLink RX7 91 "JoinedLightModel" "slope" "I", Cond.fieldLink RX7 94 "JoinedLightModel" "place" "I", Cond.methodLink RX7 112 yX7_follows]
def wsL_law_r16 : List Cond := [Cond.instanceMethod yX7_follows, Cond.selects RX7 yX7_follows yX7_follows, Cond.code yX7_follows cX7_follows 4 none, Cond.methodLink RX7 103 yX7_goes, Cond.instanceMethod yX7_goes, Cond.selects RX7 yX7_goes yX7_goes, Cond.code yX7_goes cX7_goes 2 none, Cond.methodLink RX7 97 yX7_floor, Cond.static yX7_floor, Cond.code yX7_floor cX7_floor 2 (some .int), Cond.methodLink RX7 106 yX7_colour, Cond.instanceMethod yX7_colour, Cond.selects RX7 yX7_colour yX7_colour, Cond.code yX7_colour cX7_colour 2 (some .int), Cond.methodLink RX7 109 yX7_bends, Cond.static yX7_bends, Cond.code yX7_bends cX7_bends 2 (some .int), Cond.methodLink RX7 116 yX7_cell, Cond.instanceMethod yX7_cell, Cond.selects RX7 yX7_cell yX7_cell, Cond.code yX7_cell cX7_cell 1 (some .int), Cond.methodLink RL 49 yX6_thing, Cond.instanceMethod yX6_thing, Cond.selects RX6 yX6_thing yX6_thing]
def wsL_law_r17 : List Cond := [Cond.code yX6_thing cX6_thing 3 (some .int), Cond.fieldLink RX6 131 "JoinedLight$Bench" "places" "[I", Cond.fieldLink RX6 134 "JoinedLight$Bench" "kinds" "[I", Cond.fieldLink RX6 137 "JoinedLight$Bench" "firsts" "[I", Cond.fieldLink RX6 140 "JoinedLight$Bench" "seconds" "[I", Cond.methodLink RX6 128 yX0_hasThing, Cond.methodLink RX6 143 yX6_turnOfThing, Cond.instanceMethod yX6_turnOfThing, Cond.selects RX6 yX6_turnOfThing yX6_turnOfThing, Cond.code yX6_turnOfThing cX6_turnOfThing 2 (some .int), Cond.fieldLink RX6 266 "JoinedLight$Bench" "turns" "[I", Cond.methodLink RX6 146 yX4_linesAt, Cond.instanceMethod yX4_linesAt, Cond.selects RX4 yX4_linesAt yX4_linesAt, Cond.code yX4_linesAt cX4_linesAt 7 (some .int), Cond.methodLink RX4 75 yX4_comes, Cond.methodLink RX6 150 yX4_lightLostAt, Cond.instanceMethod yX4_lightLostAt, Cond.selects RX4 yX4_lightLostAt yX4_lightLostAt, Cond.code yX4_lightLostAt cX4_lightLostAt 5 (some .int), Cond.fieldLink RX4 78 "JoinedLight$Bench" "lights" "[I", Cond.methodLink RL 52 yX7_thing, Cond.instanceMethod yX7_thing, Cond.selects RX7 yX7_thing yX7_thing]
def wsL_law_r18 : List Cond := [Cond.code yX7_thing cX7_thing 3 (some .int), Cond.methodLink RX7 120 yX7_coming, Cond.instanceMethod yX7_coming, Cond.selects RX7 yX7_coming yX7_coming, Cond.code yX7_coming cX7_coming 4 (some .int), Cond.methodLink RX7 123 yX7_lostAt, Cond.instanceMethod yX7_lostAt, Cond.selects RX7 yX7_lostAt yX7_lostAt, Cond.code yX7_lostAt cX7_lostAt 4 (some .int), Cond.methodLink RL 53 yX6_height, Cond.instanceMethod yX6_height, Cond.selects RX6 yX6_height yX6_height, Cond.code yX6_height cX6_height 3 (some .int), Cond.methodLink RX6 153 yX6_heightAt, Cond.instanceMethod yX6_heightAt, Cond.selects RX6 yX6_heightAt yX6_heightAt, Cond.code yX6_heightAt cX6_heightAt 3 (some .int), Cond.methodLink RX6 269 yX4_followLine, Cond.methodLink RL 56 yX7_height, Cond.instanceMethod yX7_height, Cond.selects RX7 yX7_height yX7_height, Cond.code yX7_height cX7_height 3 (some .int), Cond.methodLink RL 57 yX6_light, Cond.instanceMethod yX6_light]
def wsL_law_r19 : List Cond := [Cond.selects RX6 yX6_light yX6_light, Cond.code yX6_light cX6_light 2 (some .int), Cond.methodLink RX6 156 yX1_gather, Cond.instanceMethod yX1_gather, Cond.selects RX1 yX1_gather yX1_gather, Cond.code yX1_gather cX1_gather 4 none, Cond.fieldLink RX1 36 "JoinedLight$Rays" "heights" "[I", Cond.fieldLink RX1 43 "JoinedLight$Bench" "lights" "[I", Cond.methodLink RX1 25 yX0_hasLine, Cond.methodLink RX1 31 yX4_comes, Cond.methodLink RX1 39 yX0_cellOf, Cond.methodLink RX1 44 yX1_addTo, Cond.instanceMethod yX1_addTo, Cond.selects RX1 yX1_addTo yX1_addTo, Cond.code yX1_addTo cX1_addTo 5 none, Cond.methodLink RX1 48 yX1_slotOf, Cond.instanceMethod yX1_slotOf, Cond.selects RX1 yX1_slotOf yX1_slotOf, Cond.code yX1_slotOf cX1_slotOf 3 (some .int), Cond.methodLink RX1 51 yX1_hasSlot, Cond.instanceMethod yX1_hasSlot, Cond.selects RX1 yX1_hasSlot yX1_hasSlot, Cond.code yX1_hasSlot cX1_hasSlot 2 (some .boolean), Cond.methodLink RX6 160 yX1_lightOf]
def wsL_law_r20 : List Cond := [Cond.instanceMethod yX1_lightOf, Cond.selects RX1 yX1_lightOf yX1_lightOf, Cond.code yX1_lightOf cX1_lightOf 3 (some .int), Cond.methodLink RL 60 yX7_light, Cond.instanceMethod yX7_light, Cond.selects RX7 yX7_light yX7_light, Cond.code yX7_light cX7_light 2 (some .int), Cond.methodLink RX7 126 yX7_inCell, Cond.instanceMethod yX7_inCell, Cond.selects RX7 yX7_inCell yX7_inCell, Cond.code yX7_inCell cX7_inCell 4 (some .int), Cond.methodLink RX7 129 yX7_lightIn, Cond.instanceMethod yX7_lightIn, Cond.selects RX7 yX7_lightIn yX7_lightIn, Cond.code yX7_lightIn cX7_lightIn 4 (some .int), Cond.methodLink RL 61 yX6_bright, Cond.instanceMethod yX6_bright, Cond.selects RX6 yX6_bright yX6_bright, Cond.code yX6_bright cX6_bright 4 (some .int), Cond.fieldLink RX6 169 "JoinedLight$Cells" "numbers" "[I", Cond.fieldLink RX6 172 "JoinedLight$Cells" "lights" "[I", Cond.fieldLink RX6 173 "JoinedLight$Cells" "lines" "[I", Cond.methodLink RX6 163 yX1_slotOfRank, Cond.instanceMethod yX1_slotOfRank]
def wsL_law_r21 : List Cond := [Cond.selects RX1 yX1_slotOfRank yX1_slotOfRank, Cond.code yX1_slotOfRank cX1_slotOfRank 3 (some .int), Cond.methodLink RX1 54 yX1_rankOf, Cond.instanceMethod yX1_rankOf, Cond.selects RX1 yX1_rankOf yX1_rankOf, Cond.code yX1_rankOf cX1_rankOf 6 (some .int), Cond.methodLink RX6 166 yX1_hasSlot, Cond.methodLink RL 64 yX7_bright, Cond.instanceMethod yX7_bright, Cond.selects RX7 yX7_bright yX7_bright, Cond.code yX7_bright cX7_bright 7 (some .int), Cond.methodLink RX7 132 yX7_laysCells, Cond.instanceMethod yX7_laysCells, Cond.selects RX7 yX7_laysCells yX7_laysCells, Cond.code yX7_laysCells cX7_laysCells 4 (some .int), Cond.methodLink RX7 135 yX7_isBrighter, Cond.instanceMethod yX7_isBrighter, Cond.selects RX7 yX7_isBrighter yX7_isBrighter, Cond.code yX7_isBrighter cX7_isBrighter 4 (some .boolean), Cond.methodLink RL 65 yX6_bending, Cond.instanceMethod yX6_bending, Cond.selects RX6 yX6_bending yX6_bending, Cond.code yX6_bending cX6_bending 3 (some .int), Cond.methodLink RX6 176 yX6_bendingOf]
def wsL_law_r22 : List Cond := [Cond.methodLink RL 68 yX7_bending, Cond.instanceMethod yX7_bending, Cond.selects RX7 yX7_bending yX7_bending, Cond.code yX7_bending cX7_bending 3 (some .int), Cond.methodLink RL 69 yX6_best, Cond.instanceMethod yX6_best, Cond.selects RX6 yX6_best yX6_best, Cond.code yX6_best cX6_best 4 (some .int), Cond.fieldLink RX6 189 "JoinedLight$Choice" "value" "I", Cond.fieldLink RX6 193 "JoinedLight$Choice" "arrivals" "I", Cond.fieldLink RX6 196 "JoinedLight$Choice" "spread" "I", Cond.methodLink RX6 179 yX0_indexOf, Cond.methodLink RX6 182 yX2_clear, Cond.instanceMethod yX2_clear, Cond.selects RX2 yX2_clear yX2_clear, Cond.code yX2_clear cX2_clear 1 none, Cond.methodLink RX6 185 yX6_offerPlace, Cond.instanceMethod yX6_offerPlace, Cond.selects RX6 yX6_offerPlace yX6_offerPlace, Cond.code yX6_offerPlace cX6_offerPlace 3 none, Cond.methodLink RX6 200 yX6_offerTrial, Cond.instanceMethod yX6_offerTrial, Cond.selects RX6 yX6_offerTrial yX6_offerTrial, Cond.code yX6_offerTrial cX6_offerTrial 2 none]
def wsL_law_r23 : List Cond := [Cond.methodLink RX6 273 yX4_linesOnScreen, Cond.instanceMethod yX4_linesOnScreen, Cond.selects RX4 yX4_linesOnScreen yX4_linesOnScreen, Cond.code yX4_linesOnScreen cX4_linesOnScreen 3 (some .int), Cond.methodLink RX4 72 yX4_has, Cond.instanceMethod yX4_has, Cond.selects RX4 yX4_has yX4_has, Cond.code yX4_has cX4_has 2 (some .boolean), Cond.methodLink RX6 276 yJ6_bitCount_0f7a4, Cond.static yJ6_bitCount_0f7a4, Cond.initialized RJ6, Cond.code yJ6_bitCount_0f7a4 cJ6_bitCount_0f7a4 1 (some .int), Cond.constant RJ6 265 (1431655765), Cond.constant RJ6 266 (858993459), Cond.constant RJ6 267 (252645135), Cond.methodLink RX6 281 yX4_spread, Cond.instanceMethod yX4_spread, Cond.selects RX4 yX4_spread yX4_spread, Cond.code yX4_spread cX4_spread 4 (some .int), Cond.methodLink RX4 81 Lib.Math.min.name, Cond.static Lib.Math.min.name, Cond.initialized "java/lang/Math", Cond.code Lib.Math.min.name Lib.Math.min.code 2 (some .int), Cond.methodLink RX4 84 Lib.Math.max.name]
def wsL_law_r24 : List Cond := [Cond.static Lib.Math.max.name, Cond.code Lib.Math.max.name Lib.Math.max.code 2 (some .int), Cond.methodLink RX6 283 yX2_offer, Cond.instanceMethod yX2_offer, Cond.selects RX2 yX2_offer yX2_offer, Cond.code yX2_offer cX2_offer 4 none, Cond.methodLink RL 72 yX7_best, Cond.instanceMethod yX7_best, Cond.selects RX7 yX7_best yX7_best, Cond.code yX7_best cX7_best 11 (some .int), Cond.methodLink RX7 139 yX7_copies, Cond.static yX7_copies, Cond.code yX7_copies cX7_copies 3 none, Cond.methodLink RX7 143 yX7_ones, Cond.static yX7_ones, Cond.code yX7_ones cX7_ones 3 (some .int), Cond.methodLink RX7 146 yX7_spread, Cond.instanceMethod yX7_spread, Cond.selects RX7 yX7_spread yX7_spread, Cond.code yX7_spread cX7_spread 4 (some .int), Cond.methodLink RL 73 yX6_alone, Cond.instanceMethod yX6_alone, Cond.selects RX6 yX6_alone yX6_alone, Cond.code yX6_alone cX6_alone 5 (some .int)]
def wsL_law_r25 : List Cond := [Cond.constant RX6 199 (-1000000002), Cond.methodLink RL 76 yX7_alone, Cond.instanceMethod yX7_alone, Cond.selects RX7 yX7_alone yX7_alone, Cond.code yX7_alone cX7_alone 7 (some .int), Cond.methodLink RL 77 yX6_tuned, Cond.instanceMethod yX6_tuned, Cond.selects RX6 yX6_tuned yX6_tuned, Cond.code yX6_tuned cX6_tuned 4 (some .int), Cond.methodLink RL 80 yX7_tuned, Cond.instanceMethod yX7_tuned, Cond.selects RX7 yX7_tuned yX7_tuned, Cond.code yX7_tuned cX7_tuned 11 (some .int), Cond.methodLink RL 81 yX6_share, Cond.instanceMethod yX6_share, Cond.selects RX6 yX6_share yX6_share, Cond.code yX6_share cX6_share 2 (some .int), Cond.methodLink RX6 204 yX0_lightOfAll, Cond.instanceMethod yX0_lightOfAll, Cond.selects RX0 yX0_lightOfAll yX0_lightOfAll, Cond.code yX0_lightOfAll cX0_lightOfAll 3 (some .int), Cond.methodLink RX6 208 yX4_lightOnScreen, Cond.instanceMethod yX4_lightOnScreen, Cond.selects RX4 yX4_lightOnScreen yX4_lightOnScreen]
def wsL_law_r26 : List Cond := [Cond.code yX4_lightOnScreen cX4_lightOnScreen 4 (some .int), Cond.methodLink RX6 212 yX6_bitsOf, Cond.static yX6_bitsOf, Cond.code yX6_bitsOf cX6_bitsOf 3 (some .int), Cond.constantFloat RX6 297 (1258291200), Cond.methodLink RL 85 yX7_share, Cond.instanceMethod yX7_share, Cond.selects RX7 yX7_share yX7_share, Cond.code yX7_share cX7_share 3 (some .int), Cond.methodLink RX7 149 yX7_allLines, Cond.instanceMethod yX7_allLines, Cond.selects RX7 yX7_allLines yX7_allLines, Cond.code yX7_allLines cX7_allLines 1 (some .int), Cond.methodLink RX7 152 yJxf58ca_floatToIntBits_5c35a, Cond.static yJxf58ca_floatToIntBits_5c35a, Cond.initialized RJxf58ca, Cond.code yJxf58ca_floatToIntBits_5c35a cJxf58ca_floatToIntBits_5c35a 1 (some .int), Cond.methodLink RJxf58ca 74 ⟨"java/lang/Float", "floatToRawIntBits", "(F)I"⟩, Cond.native ⟨"java/lang/Float", "floatToRawIntBits", "(F)I"⟩, Cond.static ⟨"java/lang/Float", "floatToRawIntBits", "(F)I"⟩, Cond.initialized "java/lang/Float", Cond.constant RJxf58ca 77 (2143289344), Cond.methodLink RJxf58ca 59 yJxf58ca_isNaN_12338, Cond.static yJxf58ca_isNaN_12338]
def wsL_law_r27 : List Cond := [Cond.code yJxf58ca_isNaN_12338 cJxf58ca_isNaN_12338 1 (some .boolean), Cond.methodLink RL 86 yX6_count, Cond.instanceMethod yX6_count, Cond.selects RX6 yX6_count yX6_count, Cond.code yX6_count cX6_count 2 (some .int), Cond.fieldLink RX6 216 "JoinedLight$Bench" "lineCount" "I", Cond.fieldLink RX6 219 "JoinedLight$Bench" "thingCount" "I", Cond.fieldLink RX6 222 "JoinedLight$History" "states" "I", Cond.fieldLink RX6 225 "JoinedLight$Text" "length" "I", Cond.fieldLink RX6 228 "JoinedLight$Bench" "cellWidth" "I", Cond.methodLink RX6 231 yX6_countOfRays, Cond.instanceMethod yX6_countOfRays, Cond.selects RX6 yX6_countOfRays yX6_countOfRays, Cond.code yX6_countOfRays cX6_countOfRays 2 (some .int), Cond.fieldLink RX6 294 "JoinedLight$Cells" "used" "I", Cond.methodLink RX6 287 yX6_lightIsJoined, Cond.instanceMethod yX6_lightIsJoined, Cond.selects RX6 yX6_lightIsJoined yX6_lightIsJoined, Cond.code yX6_lightIsJoined cX6_lightIsJoined 1 (some .boolean), Cond.methodLink RX6 291 yX4_slopesAreSame, Cond.instanceMethod yX4_slopesAreSame, Cond.selects RX4 yX4_slopesAreSame yX4_slopesAreSame, Cond.code yX4_slopesAreSame cX4_slopesAreSame 2 (some .boolean), Cond.methodLink RL 89 yX7_count]
def wsL_law_r28 : List Cond := [Cond.instanceMethod yX7_count, Cond.selects RX7 yX7_count yX7_count, Cond.code yX7_count cX7_count 2 (some .int), Cond.fieldLink RX7 168 "JoinedLightModel" "typed" "I", Cond.methodLink RX7 158 yX7_isJoined, Cond.instanceMethod yX7_isJoined, Cond.selects RX7 yX7_isJoined yX7_isJoined, Cond.code yX7_isJoined cX7_isJoined 1 (some .boolean), Cond.methodLink RX7 162 yX7_isAsItWas, Cond.instanceMethod yX7_isAsItWas, Cond.selects RX7 yX7_isAsItWas yX7_isAsItWas, Cond.code yX7_isAsItWas cX7_isAsItWas 4 (some .boolean), Cond.methodLink RX7 165 yX7_lostAtThings, Cond.instanceMethod yX7_lostAtThings, Cond.selects RX7 yX7_lostAtThings yX7_lostAtThings, Cond.code yX7_lostAtThings cX7_lostAtThings 3 (some .int), Cond.methodLink RL 90 yX6_undo, Cond.instanceMethod yX6_undo, Cond.selects RX6 yX6_undo yX6_undo, Cond.code yX6_undo cX6_undo 1 (some .int), Cond.methodLink RX6 234 yX3_takeLatest, Cond.instanceMethod yX3_takeLatest, Cond.selects RX3 yX3_takeLatest yX3_takeLatest, Cond.code yX3_takeLatest cX3_takeLatest 4 (some .boolean)]
def wsL_law_r29 : List Cond := [Cond.methodLink RL 93 yX7_undo, Cond.instanceMethod yX7_undo, Cond.selects RX7 yX7_undo yX7_undo, Cond.code yX7_undo cX7_undo 2 (some .int), Cond.methodLink RL 94 yX6_type, Cond.instanceMethod yX6_type, Cond.selects RX6 yX6_type yX6_type, Cond.code yX6_type cX6_type 2 (some .int), Cond.constant RX6 242 (-1000000003), Cond.methodLink RX6 238 yX5_append, Cond.instanceMethod yX5_append, Cond.selects RX5 yX5_append yX5_append, Cond.code yX5_append cX5_append 2 (some .boolean), Cond.methodLink RL 97 yX7_type, Cond.instanceMethod yX7_type, Cond.selects RX7 yX7_type yX7_type, Cond.code yX7_type cX7_type 2 (some .int), Cond.methodLink RL 98 yX6_clearText, Cond.instanceMethod yX6_clearText, Cond.selects RX6 yX6_clearText yX6_clearText, Cond.code yX6_clearText cX6_clearText 2 (some .int), Cond.methodLink RL 101 yX7_clearText, Cond.instanceMethod yX7_clearText, Cond.selects RX7 yX7_clearText yX7_clearText]
def wsL_law_r30 : List Cond := [Cond.code yX7_clearText cX7_clearText 2 (some .int), Cond.methodLink RL 102 yX6_fault, Cond.instanceMethod yX6_fault, Cond.selects RX6 yX6_fault yX6_fault, Cond.code yX6_fault cX6_fault 2 (some .int), Cond.fieldLink RX6 246 "JoinedLight" "faultReason" "I", Cond.fieldLink RX6 249 "JoinedLight" "faultPosition" "I", Cond.fieldLink RX6 252 "JoinedLight" "faultCause" "I", Cond.methodLink RX6 243 yX6_tryText, Cond.instanceMethod yX6_tryText, Cond.selects RX6 yX6_tryText yX6_tryText, Cond.code yX6_tryText cX6_tryText 3 none, Cond.fieldLink RX6 255 "JoinedLight" "ordersDone" "I", Cond.fieldLink RX6 301 "JoinedLight$Text" "next" "I", Cond.methodLink RX6 298 yX5_readOrder, Cond.instanceMethod yX5_readOrder, Cond.selects RX5 yX5_readOrder yX5_readOrder, Cond.code yX5_readOrder cX5_readOrder 4 (some .boolean), Cond.methodLink RX5 30 yX5_signAt, Cond.instanceMethod yX5_signAt, Cond.selects RX5 yX5_signAt yX5_signAt, Cond.code yX5_signAt cX5_signAt 2 (some .char), Cond.methodLink RX5 34 yX5_numbersOf, Cond.static yX5_numbersOf]
def wsL_law_r31 : List Cond := [Cond.code yX5_numbersOf cX5_numbersOf 1 (some .int), Cond.methodLink RX5 38 yX5_readNumber, Cond.instanceMethod yX5_readNumber, Cond.selects RX5 yX5_readNumber yX5_readNumber, Cond.code yX5_readNumber cX5_readNumber 4 (some .boolean), Cond.methodLink RX5 42 yX5_readSign, Cond.instanceMethod yX5_readSign, Cond.selects RX5 yX5_readSign yX5_readSign, Cond.code yX5_readSign cX5_readSign 2 (some .boolean), Cond.methodLink RX6 304 yX6_noteFault, Cond.instanceMethod yX6_noteFault, Cond.selects RX6 yX6_noteFault yX6_noteFault, Cond.code yX6_noteFault cX6_noteFault 4 none, Cond.methodLink RX6 307 yX6_doOrder, Cond.instanceMethod yX6_doOrder, Cond.selects RX6 yX6_doOrder yX6_doOrder, Cond.code yX6_doOrder cX6_doOrder 4 (some .int), Cond.fieldLink RX6 310 "JoinedLight$Text" "numbers" "[I", Cond.fieldLink RX6 311 "JoinedLight$Text" "letter" "C", Cond.methodLink RL 105 yX7_fault, Cond.instanceMethod yX7_fault, Cond.selects RX7 yX7_fault yX7_fault, Cond.code yX7_fault cX7_fault 3 (some .int), Cond.fieldLink RX7 203 "JoinedLightModel" "from" "I"]
def wsL_law_r32 : List Cond := [Cond.fieldLink RX7 215 "JoinedLightModel" "reason" "I", Cond.fieldLink RX7 218 "JoinedLightModel" "cause" "I", Cond.methodLink RX7 221 yX7_plays, Cond.instanceMethod yX7_plays, Cond.selects RX7 yX7_plays yX7_plays, Cond.code yX7_plays cX7_plays 4 (some .boolean), Cond.fieldLink RX7 171 "JoinedLightModel" "spot" "I", Cond.fieldLink RX7 206 "JoinedLightModel" "orders" "I", Cond.methodLink RX7 209 yX7_reads, Cond.instanceMethod yX7_reads, Cond.selects RX7 yX7_reads yX7_reads, Cond.code yX7_reads cX7_reads 4 (some .boolean), Cond.fieldLink RX7 177 "JoinedLightModel" "order" "I", Cond.methodLink RX7 174 yX7_isAt, Cond.instanceMethod yX7_isAt, Cond.selects RX7 yX7_isAt yX7_isAt, Cond.code yX7_isAt cX7_isAt 3 (some .boolean), Cond.methodLink RX7 180 yX7_numbersOf, Cond.static yX7_numbersOf, Cond.code yX7_numbersOf cX7_numbersOf 1 (some .int), Cond.methodLink RX7 183 yX7_numbered, Cond.instanceMethod yX7_numbered, Cond.selects RX7 yX7_numbered yX7_numbered, Cond.code yX7_numbered cX7_numbered 3 (some .boolean)]
def wsL_law_r33 : List Cond := [Cond.methodLink RX7 186 yX7_sign, Cond.instanceMethod yX7_sign, Cond.selects RX7 yX7_sign yX7_sign, Cond.code yX7_sign cX7_sign 3 (some .boolean), Cond.methodLink RX7 212 yX7_calls, Cond.instanceMethod yX7_calls, Cond.selects RX7 yX7_calls yX7_calls, Cond.code yX7_calls cX7_calls 1 (some .int), Cond.methodLink RX7 189 yX7_line, Cond.methodLink RX7 192 yX7_prism, Cond.methodLink RX7 196 yX7_slit, Cond.methodLink RX7 200 yX7_take, Cond.methodLink RL 106 yX6_play, Cond.instanceMethod yX6_play, Cond.selects RX6 yX6_play yX6_play, Cond.code yX6_play cX6_play 1 (some .int), Cond.methodLink RL 109 yX7_play, Cond.instanceMethod yX7_play, Cond.selects RX7 yX7_play yX7_play, Cond.code yX7_play cX7_play 2 (some .int)]
def wsL_law : List Cond := (wsL_law_r1 ++ (wsL_law_r2 ++ (wsL_law_r3 ++ (wsL_law_r4 ++ (wsL_law_r5 ++ (wsL_law_r6 ++ (wsL_law_r7 ++ (wsL_law_r8 ++ (wsL_law_r9 ++ (wsL_law_r10 ++ (wsL_law_r11 ++ (wsL_law_r12 ++ (wsL_law_r13 ++ (wsL_law_r14 ++ (wsL_law_r15 ++ (wsL_law_r16 ++ (wsL_law_r17 ++ (wsL_law_r18 ++ (wsL_law_r19 ++ (wsL_law_r20 ++ (wsL_law_r21 ++ (wsL_law_r22 ++ (wsL_law_r23 ++ (wsL_law_r24 ++ (wsL_law_r25 ++ (wsL_law_r26 ++ (wsL_law_r27 ++ (wsL_law_r28 ++ (wsL_law_r29 ++ (wsL_law_r30 ++ (wsL_law_r31 ++ (wsL_law_r32 ++ wsL_law_r33)))))))))))))))))))))))))))))))) ++ wsX60 ++ wsX70 ++ wsX00 ++ wsX40 ++ wsX10 ++ wsX20 ++ wsX30 ++ wsX50 ++ ([] : List Cond)
abbrev vwCl : List vw_C := [(RX0, TX0, 10), (RX1, TX1, 4), (RX2, TX2, 3), (RX3, TX3, 2), (RX4, TX4, 5), (RX5, TX5, 5), (RX6, TX6, 11), (RX7, TX7, 21)]
end
section
/-! ===== the layer: worlds as lists of groups, contracts that tell a value, mirror words ===== -/
abbrev zG : Type := Nat → Nat → Int32
def gup (g : zG) (k i : Nat) (v : Int32) : zG := fun k' => if k' = k then upd (g k') i v else g k'
theorem gup_same (g : zG) (k i : Nat) (v : Int32) : gup g k i v k = upd (g k) i v := by simp [gup]
theorem gup_ne (g : zG) {k k' : Nat} (i : Nat) (v : Int32) (h : k' ≠ k) : gup g k i v k' = g k' := by simp [gup, h]
def gset (g : zG) (k : Nat) (f : Nat → Int32) : zG := fun k' => if k' = k then f else g k'
theorem gset_same (g : zG) (k : Nat) (f : Nat → Int32) : gset g k f k = f := by simp [gset]
theorem gset_ne (g : zG) {k k' : Nat} (f : Nat → Int32) (h : k' ≠ k) : gset g k f k' = g k' := by simp [gset, h]
-- mirror words
def zfuel : Nat := 1000
theorem zne_toInt {x k : Int32} {a : Int} (h : ¬ x = k) (hk : k.toInt = a) : x.toInt ≠ a := fun e => h (Int32.toInt_inj.mp (e.trans hk.symm))
def zlet {α β : Type} (a : α) (f : α → Option β) : Option β := f a
def zin {β : Type} (i : Int32) (n : Nat) (k : Option β) : Option β := if i < 0 ∨ n ≤ i.toNatClampNeg then none else k
def zne {β : Type} (y : Int32) (k : Option β) : Option β := if y = 0 then none else k
def zbl {β : Type} (v : Int32) (k : Option β) : Option β := if v = 0 ∨ v = 1 then k else none
def zch {β : Type} (v : Int32) (k : Option β) : Option β := if 0 ≤ v ∧ v < 65536 then k else none
def zfl {β : Type} (v : UInt32) (k : Option β) : Option β := if v &&& 0x7fffffff ≤ 0x7f800000 then k else none
def zbind {α β : Type} (o : Option α) (f : α → Option β) : Option β := match o with
  | none => none
  | some a => f a
theorem zlet_ex {α β : Type} {a : α} {f : α → Option β} {r : β} (h : zlet a f = some r) : ∃ x, x = a ∧ f x = some r := ⟨a, rfl, h⟩
theorem zin_ex {β : Type} {i : Int32} {n : Nat} {k : Option β} {r : β} (h : zin i n k = some r) : vp_in i n ∧ k = some r := by
  unfold zin at h
  split at h
  · cases h
  · exact ⟨by assumption, h⟩
theorem zne_ex {β : Type} {y : Int32} {k : Option β} {r : β} (h : zne y k = some r) : ¬ y = 0 ∧ k = some r := by
  unfold zne at h
  split at h
  · cases h
  · exact ⟨by assumption, h⟩
theorem zbl_ex {β : Type} {v : Int32} {k : Option β} {r : β} (h : zbl v k = some r) : narrow .boolean (.int v) = .int v ∧ k = some r := by
  unfold zbl at h
  split at h
  · rename_i hv
    refine ⟨?_, h⟩
    rcases hv with rfl | rfl <;> rfl
  · cases h
theorem zch_ex {β : Type} {v : Int32} {k : Option β} {r : β} (h : zch v k = some r) : (narrow .char (.int v) = .int v ∧ fits .char (.int v) = true ∧ vp_nar .char v = v) ∧ k = some r := by
  unfold zch at h
  split at h
  · rename_i hv
    refine ⟨?_, h⟩
    obtain ⟨j, hj, rfl⟩ := nI_of (x := v) (by have := hv.1; exact Int32.not_lt.mpr this)
    have h2 : j < 65536 := by
      have h3 := hv.2
      rw [show (65536 : Int32) = nI 65536 from rfl] at h3
      exact (nI_ltI hj (by decide)).mp h3
    have h4 := pk_charN h2
    refine ⟨h4.1, h4.2, ?_⟩
    unfold vp_nar
    rw [h4.1]
  · cases h
theorem zfl_ex {β : Type} {v : UInt32} {k : Option β} {r : β} (h : zfl v k = some r) : vf_n32 v ∧ k = some r := by
  unfold zfl at h
  split at h
  · exact ⟨by assumption, h⟩
  · cases h
theorem zbind_ex {α β : Type} {o : Option α} {f : α → Option β} {r : β} (h : zbind o f = some r) : ∃ a, o = some a ∧ f a = some r := by
  cases o with
  | none => cases h
  | some a => exact ⟨a, rfl, h⟩
theorem zif_t {c : Prop} [Decidable c] {β : Type} {a b : Option β} {r : β} (h : (if c then a else b) = some r) (hc : c) : a = some r := by rwa [if_pos hc] at h
theorem zif_f {c : Prop} [Decidable c] {β : Type} {a b : Option β} {r : β} (h : (if c then a else b) = some r) (hc : ¬ c) : b = some r := by rwa [if_neg hc] at h
-- the nest mates' words
def zN (U : State) : Prop := va_Nw (.methodLinkNest RX0 62 yX6_within RX6) U ∧ va_Nw (.methodLinkNest RX0 87 yX6_bendingOf RX6) U ∧ va_Nw (.methodLinkNest RX5 46 yX6_within RX6) U ∧ va_Nw (.methodLinkNest RX3 24 yX0_init RX6) U
theorem zN.warm {s U : State} (hW : s.WarmedH U.vm) (h : zN s) : zN U := ⟨va_Nw.warmM hW h.1, va_Nw.warmM hW h.2.1, va_Nw.warmM hW h.2.2.1, va_Nw.warmM hW h.2.2.2⟩
theorem zN.same {s U : State} (hW : s.vm = U.vm) (h : zN s) : zN U := ⟨va_Nw.same rfl hW h.1, va_Nw.same rfl hW h.2.1, va_Nw.same rfl hW h.2.2.1, va_Nw.same rfl hW h.2.2.2⟩
-- array classes: ints, chars, benches
abbrev zT (cI cC cO : ClassId) : List (ClassId × FieldType) := [(cI, .int), (cC, .char), (cO, .object "JoinedLight$Bench")]
-- worlds
theorem zP_mem {D : va_G} {cl : List vw_C} {ws : va_W} {H : Heap} : va_P D cl ws H ↔ ∀ q ∈ ws, va_at D cl q H := by
  constructor
  · intro h q hq
    obtain ⟨k, hk⟩ := List.mem_iff_getElem?.mp hq
    exact h k q hk
  · intro h k q hk
    exact h q (List.mem_of_getElem? hk)
theorem zD_mem {A : Nat → Prop} {ws : va_W} : va_D A ws ↔ (ws.map Prod.fst).Nodup ∧ ∀ q ∈ ws, A q.1 := by
  constructor
  · intro h
    refine ⟨?_, fun q hq => ?_⟩
    · rw [List.Nodup, List.pairwise_iff_getElem]
      intro i j hi hj hij e
      rw [List.length_map] at hi hj
      rw [List.getElem_map, List.getElem_map] at e
      have := h.1 i j ws[i] ws[j] (List.getElem?_eq_getElem hi) (List.getElem?_eq_getElem hj) e
      omega
    · obtain ⟨k, hk⟩ := List.mem_iff_getElem?.mp hq
      exact h.2 k q hk
  · intro h
    refine ⟨fun i j p q hp hq e => ?_, fun k q hk => h.2 q (List.mem_of_getElem? hk)⟩
    obtain ⟨hi, ei⟩ := List.getElem?_eq_some_iff.mp hp
    obtain ⟨hj, ej⟩ := List.getElem?_eq_some_iff.mp hq
    have h1 := h.1
    rw [List.Nodup, List.pairwise_iff_getElem] at h1
    rcases Nat.lt_trichotomy i j with c | c | c
    · exact absurd (by rw [List.getElem_map, List.getElem_map, ei, ej]; exact e) (h1 i j (by rw [List.length_map]; exact hi) (by rw [List.length_map]; exact hj) c)
    · exact c
    · exact absurd (by rw [List.getElem_map, List.getElem_map, ei, ej]; exact e.symm) (h1 j i (by rw [List.length_map]; exact hj) (by rw [List.length_map]; exact hi) c)
theorem zpick_all {α : Type} (gs : List α) : (List.range gs.length).filterMap (fun i => gs[i]?) = gs := by
  induction gs with
  | nil => rfl
  | cons a l ih =>
    rw [List.length_cons, List.range_succ_eq_map, List.filterMap_cons, List.filterMap_map]
    show a :: _ = _
    congr 1
theorem zpick {gs : List va_W} {isC isR : List Nat} (hp : (isC ++ isR).Perm (List.range gs.length)) : gs.flatten.Perm ((isC.filterMap (fun i => gs[i]?)).flatten ++ (isR.filterMap (fun i => gs[i]?)).flatten) := by
  have h := hp.filterMap (fun i => gs[i]?)
  rw [zpick_all, List.filterMap_append] at h
  have h2 := h.symm.flatten
  rwa [List.flatten_append] at h2
theorem zpick_sub {gs : List va_W} {isC : List Nat} {q : Nat × va_E} (h : q ∈ (isC.filterMap (fun i => gs[i]?)).flatten) : q ∈ gs.flatten := by
  obtain ⟨l, hl, hq⟩ := List.mem_flatten.mp h
  obtain ⟨i, -, hi⟩ := List.mem_filterMap.mp hl
  exact List.mem_flatten.mpr ⟨l, List.mem_of_getElem? hi, hq⟩
theorem z_subP {D : va_G} {cl : List vw_C} {gs gc : List va_W} {H : Heap} (hP : va_P D cl gs.flatten H) (isC : List Nat) (hC : isC.filterMap (fun i => gs[i]?) = gc) : va_P D cl gc.flatten H := by
  rw [zP_mem] at hP ⊢
  subst hC
  exact fun q hq => hP q (zpick_sub hq)
theorem z_subD {A : Nat → Prop} {gs gc : List va_W} (hD : va_D A gs.flatten) (isC isR : List Nat) (hC : isC.filterMap (fun i => gs[i]?) = gc) (hp : (isC ++ isR).Perm (List.range gs.length)) : va_D A gc.flatten := by
  rw [zD_mem] at hD ⊢
  subst hC
  refine ⟨?_, fun q hq => hD.2 q (zpick_sub hq)⟩
  have h := ((zpick hp).map Prod.fst).nodup_iff.mp hD.1
  rw [List.map_append] at h
  exact (List.nodup_append.mp h).1
theorem z_Amem {ws : va_W} {sz : Nat} {a : Nat} : va_A ws sz a ↔ (∃ q ∈ ws, q.1 = a) ∨ sz ≤ a := by
  unfold va_A
  constructor
  · rintro (⟨k, e, h⟩ | h)
    · exact Or.inl ⟨(a, e), List.mem_of_getElem? h, rfl⟩
    · exact Or.inr h
  · rintro (⟨q, h, rfl⟩ | h)
    · obtain ⟨k, hk⟩ := List.mem_iff_getElem?.mp h
      exact Or.inl ⟨k, q.2, hk⟩
    · exact Or.inr h
theorem z_free {A0 : Nat → Prop} {gs gc : List va_W} {H0 H : Heap} {locs : List Loc} (hD : va_D A0 gs.flatten) (hS : va_S A0 H0 H locs) (hA : ∀ q, H0.size ≤ q → A0 q) (isC : List Nat) (hC : isC.filterMap (fun i => gs[i]?) = gc) : ∀ q, va_A gc.flatten H.size q → A0 q := by
  intro a h
  subst hC
  rcases z_Amem.mp h with ⟨q, hq, rfl⟩ | h
  · exact (zD_mem.mp hD).2 q (zpick_sub hq)
  · exact hA a (Nat.le_trans hS.1 h)
theorem z_join {A0 : Nat → Prop} {D : va_G} {cl : List vw_C} {gs gs2 gc gc' : List va_W} {H H1 : Heap} (hP : va_P D cl gs.flatten H) (hD : va_D A0 gs.flatten) (isC isR : List Nat) (hC : isC.filterMap (fun i => gs[i]?) = gc) (hC2 : isC.filterMap (fun i => gs2[i]?) = gc') (hR : isR.filterMap (fun i => gs2[i]?) = isR.filterMap (fun i => gs[i]?)) (hp : (isC ++ isR).Perm (List.range gs.length)) (hlen : gs2.length = gs.length)
    (hk : ∀ q : Nat, q < H.size → ¬ va_A gc.flatten H.size q → H1[q]? = H[q]?) (hF : ∀ q, va_A gc.flatten H.size q → A0 q) (hP1 : va_P D cl gc'.flatten H1) (hD1 : va_D (va_A gc.flatten H.size) gc'.flatten) : va_P D cl gs2.flatten H1 ∧ va_D A0 gs2.flatten := by
  have h1 := zpick hp
  have h2 := zpick (gs := gs2) (isC := isC) (isR := isR) (by rw [hlen]; exact hp)
  rw [hC] at h1
  rw [hC2, hR] at h2
  rw [zP_mem] at hP hP1
  rw [zD_mem] at hD hD1
  have hnd := (h1.map Prod.fst).nodup_iff.mp hD.1
  rw [List.map_append, List.nodup_append] at hnd
  have hrest : ∀ q ∈ (isR.filterMap (fun i => gs[i]?)).flatten, q.1 < H.size ∧ ¬ va_A gc.flatten H.size q.1 := by
    intro q hq
    have hl := (hP q (zpick_sub hq)).lt
    refine ⟨hl, fun h => ?_⟩
    rcases z_Amem.mp h with ⟨q2, hq2, e⟩ | h
    · exact hnd.2.2 q2.1 (List.mem_map_of_mem hq2) q.1 (List.mem_map_of_mem hq) e
    · omega
  constructor
  · rw [zP_mem]
    intro q hq
    rcases List.mem_append.mp (h2.mem_iff.mp hq) with h | h
    · exact hP1 q h
    · obtain ⟨g1, g2⟩ := hrest q h
      exact (hP q (zpick_sub h)).kept (hk q.1 g1 g2)
  · rw [zD_mem]
    refine ⟨?_, fun q hq => ?_⟩
    · rw [(h2.map Prod.fst).nodup_iff, List.map_append, List.nodup_append]
      refine ⟨hD1.1, hnd.2.1, fun a ha b hb e => ?_⟩
      obtain ⟨qa, hqa, rfl⟩ := List.mem_map.mp ha
      obtain ⟨qb, hqb, rfl⟩ := List.mem_map.mp hb
      exact (hrest qb hqb).2 (e ▸ hD1.2 qa hqa)
    · rcases List.mem_append.mp (h2.mem_iff.mp hq) with h | h
      · exact hF _ (hD1.2 q h)
      · exact hD.2 q (zpick_sub h)
-- contracts
def zpR (D : va_G) (tys : List (ClassId × FieldType)) (gs : List va_W) (U : State) : Prop := va_P D vwCl gs.flatten U.heap ∧ va_K D vwCl tys U ∧ zN U
def zqR (r : Option Value) : Array Value → State → Outcome → State → Prop := fun _ st oc t => oc = .returned r ∧ t.heap = st.heap
def zpM (D : va_G) (tys : List (ClassId × FieldType)) (gs : List va_W) (sz : Nat) (U : State) : Prop := U.heap.size = sz ∧ va_P D vwCl gs.flatten U.heap ∧ va_K D vwCl tys U ∧ va_D (fun _ => True) gs.flatten ∧ zN U
def zqM (D : va_G) (r : Option Value) (gs : List va_W) (A : Nat → Prop) : Array Value → State → Outcome → State → Prop := fun _ st oc t => oc = .returned r ∧ va_P D vwCl gs.flatten t.heap ∧ va_D A gs.flatten ∧ va_F A st t
def cR (l : Launch) (D : va_G) (tys : List (ClassId × FieldType)) (y : MethodName) (ws : List Cond) (rm : Room) (as : List Value) (gs : List va_W) (r : Option Value) : Prop := Met l y ws rm (va_Pc as (zpR D tys gs)) (zqR r) 0 0 (fun _ => False)
def cM (l : Launch) (D : va_G) (tys : List (ClassId × FieldType)) (y : MethodName) (ws : List Cond) (rm : Room) (as : List Value) (gs gs' : List va_W) (r : Option Value) (mc ms : Nat) : Prop := ∀ sz, Met l y ws rm (va_Pc as (zpM D tys gs sz)) (zqM D r gs' (va_A gs.flatten sz)) mc ms (va_A gs.flatten sz)
theorem zpR_blind {D : va_G} {tys : List (ClassId × FieldType)} {gs : List va_W} {as : List Value} : FrameBlind (va_Pc as (zpR D tys gs)) :=
  fun a U g mk h => ⟨h.1, h.2.1, va_K.moved (u := U) (U := U.calling g mk a) (Vm.Alike.refl U.vm) h.2.2.1, zN.same (s := U) (U := U.calling g mk a) rfl h.2.2.2⟩
theorem zpM_blind {D : va_G} {tys : List (ClassId × FieldType)} {gs : List va_W} {as : List Value} {sz : Nat} : FrameBlind (va_Pc as (zpM D tys gs sz)) :=
  fun a U g mk h => ⟨h.1, h.2.1, h.2.2.1, va_K.moved (u := U) (U := U.calling g mk a) (Vm.Alike.refl U.vm) h.2.2.2.1, h.2.2.2.2.1, zN.same (s := U) (U := U.calling g mk a) rfl h.2.2.2.2.2⟩
theorem z_useR {D : va_G} {tys : List (ClassId × FieldType)} {gs gc : List va_W} {s : State} {H : Heap} {as : List Value} (hK : va_K D vwCl tys s) (hN : zN s) (hP : va_P D vwCl gs.flatten H) (isC : List Nat) (hC : isC.filterMap (fun i => gs[i]?) = gc) : ∀ U : State, U.heap = H → s.WarmedH U.vm → va_Pc as (zpR D tys gc) as.toArray U :=
  fun U hU hW => ⟨rfl, by rw [hU]; exact z_subP hP isC hC, va_K.moved hW.alike hK, hN.warm hW⟩
theorem z_useM {D : va_G} {tys : List (ClassId × FieldType)} {gs gc : List va_W} {s : State} {H : Heap} {A : Nat → Prop} {as : List Value} (hK : va_K D vwCl tys s) (hN : zN s) (hP : va_P D vwCl gs.flatten H) (hD : va_D A gs.flatten) (isC isR : List Nat) (hC : isC.filterMap (fun i => gs[i]?) = gc) (hp : (isC ++ isR).Perm (List.range gs.length)) : ∀ U : State, U.heap = H → s.WarmedH U.vm → va_Pc as (zpM D tys gc H.size) as.toArray U :=
  fun U hU hW => ⟨rfl, by rw [hU], by rw [hU]; exact z_subP hP isC hC, va_K.moved hW.alike hK, (z_subD hD isC isR hC hp).weaken (fun _ _ _ _ => trivial), hN.warm hW⟩
section ZC
variable {p : Program} {l : Launch} {e : Env} {R : Room} {s : State} {m : MethodId} {args : Array Value} {below : List Frame} {meth : Method} {c : Code} {H H0 : Heap} {locs : List Loc} {cells slots mc ms : Nat} {Q : State → Prop}
variable {pc : Nat} {ls : Array Slot} {rest st0 : List Value} {a : Array Value} {A : Nat → Prop} {D : va_G} {tys : List (ClassId × FieldType)} {cc : ByteArray}
theorem z_callRi {v : Int32} (hr : va_Run p l e R s m args below meth c H locs cells slots 0 0 (F0 m pc ls st0) rest (zqR (some (.int v)) a) (fun _ => False)) (kk : W p l e R s m args below meth c H locs cells slots Q (F0 m (pc + 3) ls (.int v :: rest))) : W p l e R s m args below meth c H locs cells slots Q (F0 m pc ls st0) := by
  intro T hT X
  obtain ⟨w, st₀, t, T', L, h0, X', hL, e1, e2, ⟨hv, hh⟩, st⟩ := hr T hT X
  cases hv
  obtain ⟨t2, a1, b1⟩ := kk T' (by rw [e1, hh, h0]) (Stand.forget X' (fun q h => (hL q h).elim))
  exact ⟨t2, st t2 a1, b1⟩
theorem z_callM {r : Option Value} {gs gs2 gc gc' : List va_W} (hP : va_P D vwCl gs.flatten H) (hD : va_D A gs.flatten) (hS : va_S A H0 H locs) (hA : ∀ q, H0.size ≤ q → A q) (isC isR : List Nat) (hC : isC.filterMap (fun i => gs[i]?) = gc) (hC2 : isC.filterMap (fun i => gs2[i]?) = gc') (hR : isR.filterMap (fun i => gs2[i]?) = isR.filterMap (fun i => gs[i]?)) (hp : (isC ++ isR).Perm (List.range gs.length)) (hlen : gs2.length = gs.length)
    (hr : va_Run p l e R s m args below meth c H locs cells slots mc ms (F0 m pc ls st0) rest (zqM D r gc' (va_A gc.flatten H.size) a) (va_A gc.flatten H.size))
    (kk : ∀ (H1 : Heap) (locs1 : List Loc), va_P D vwCl gs2.flatten H1 → va_D A gs2.flatten → va_S A H0 H1 locs1 → W p l e R s m args below meth c H1 locs1 (cells + mc) (slots + ms) Q (F0 m (pc + 3) ls (r.toList ++ rest))) : W p l e R s m args below meth c H locs cells slots Q (F0 m pc ls st0) := by
  intro T hT X
  obtain ⟨v, st₀, t, T', L, h0, X', hL, e1, e2, ⟨hv, hP1, hD1, hz, hk⟩, st⟩ := hr T hT X
  cases hv
  rw [h0] at hz hk
  have hF := z_free hD hS hA isC hC
  have hk' : ∀ q : Nat, q < H.size → ¬ va_A gc.flatten H.size q → t.heap[q]? = H[q]? := hk
  obtain ⟨hP2, hD2⟩ := z_join hP hD isC isR hC hC2 hR hp hlen hk' hF hP1 hD1
  obtain ⟨t2, a1, b1⟩ := kk T'.heap (locs ++ L) (by rw [e1]; exact hP2) hD2
    ⟨Nat.le_trans hS.1 (by rw [e1]; exact hz), fun q h1 h2 => by rw [e1, hk' q (Nat.lt_of_lt_of_le h1 hS.1) (fun z => h2 (hF q z))]; exact hS.2.1 q h1 h2, fun q hq => by
      rcases List.mem_append.mp hq with h | h
      · exact hS.2.2 q h
      · exact hF _ (hL q h)⟩ T' rfl X'
  exact ⟨t2, st t2 a1, b1⟩
-- writes
theorem z_iast {gs gs' : List va_W} {i x : Int32} {q : Nat} (hexec : p.tables.exec = Jvm.exec) (hb : c.code = cc) (hK : va_K D vwCl tys s) (hP : va_P D vwCl gs.flatten H) (hD : va_D A gs.flatten) (hS : va_S A H0 H locs) (q0 t0 : Nat) {cA : ClassId} {n : Nat} {f : Nat → Int32} (ha : gs.flatten[q0]? = some (q, .inl (cA, n, .inl f))) (ht : tys[t0]? = some (cA, .int)) (hin : vp_in i n) (hg : gs'.flatten = gs.flatten.set q0 (q, .inl (cA, n, .inl (upd f i.toNatClampNeg x)))) (hdg : decode cc pc = .ok (.iastore, 1))
    (kk : ∀ (H1 : Heap) (locs1 : List Loc), va_P D vwCl gs'.flatten H1 → va_D A gs'.flatten → va_S A H0 H1 locs1 → W p l e R s m args below meth c H1 locs1 cells slots Q (F0 m (pc + 1) ls rest)) : W p l e R s m args below meth c H locs cells slots Q (F0 m pc ls (.int x :: .int i :: .ref q :: rest)) := by
  rw [hg] at kk
  exact va_iast hexec hb hK hP hD hS q0 t0 ha ht hin hdg kk
theorem z_cast {gs gs' : List va_W} {i x : Int32} {q : Nat} (hexec : p.tables.exec = Jvm.exec) (hb : c.code = cc) (hK : va_K D vwCl tys s) (hP : va_P D vwCl gs.flatten H) (hD : va_D A gs.flatten) (hS : va_S A H0 H locs) (q0 t0 : Nat) {cA : ClassId} {n : Nat} {f : Nat → Int32} (ha : gs.flatten[q0]? = some (q, .inl (cA, n, .inl f))) (ht : tys[t0]? = some (cA, .char)) (hin : vp_in i n) (hx : vp_nar .char x = x) (hg : gs'.flatten = gs.flatten.set q0 (q, .inl (cA, n, .inl (upd f i.toNatClampNeg x)))) (hdg : decode cc pc = .ok (.castore, 1))
    (kk : ∀ (H1 : Heap) (locs1 : List Loc), va_P D vwCl gs'.flatten H1 → va_D A gs'.flatten → va_S A H0 H1 locs1 → W p l e R s m args below meth c H1 locs1 cells slots Q (F0 m (pc + 1) ls rest)) : W p l e R s m args below meth c H locs cells slots Q (F0 m pc ls (.int x :: .int i :: .ref q :: rest)) := by
  rw [hg] at kk
  refine va_cast hexec hb hK hP hD hS q0 t0 ha ht hin hdg ?_
  rw [hx]
  exact kk
theorem z_put {gs gs' : List va_W} {v : Value} {q : Nat} (hexec : p.tables.exec = Jvm.exec) (hb : c.code = cc) {own ref C : String} {T : u_T} {N ci index : Nat} {Ts : List Cond} (hts : ∀ w ∈ Ts, w.before args s = true) (hin : ∀ w ∈ u_ws C T N, w ∈ Ts) (ty0 : Nat → FieldType) (hty : ∀ k, k < N → parseFieldDescriptor (T k).2.2.1 = some (ty0 k)) (hnm : ∀ a, a < N → ∀ b, b < N → a ≠ b → (T a).2.1 ≠ (T b).2.1) (hown : s.vm.findClass own = some m.cls) (hK : va_K D vwCl tys s) (hP : va_P D vwCl gs.flatten H) (hD : va_D A gs.flatten) (hS0 : va_S A H0 H locs) (q0 : Nat) {fs : List Value} (he : gs.flatten[q0]? = some (q, .inr (ci, fs))) (hc : vwCl[ci]? = some (C, T, N)) (k : Nat) (hk : k < N) (hlink : (Cond.fieldLink own index ref (T k).2.1 (T k).2.2.1).before args s = true) (hsame : ∀ x, s.fieldFound? (T k).1 (T k).2.1 (T k).2.2.1 = some x → s.fieldFound? ref (T k).2.1 (T k).2.2.1 = some x) (hfin : (T k).2.2.2 = false) {ty : FieldType} (hd : parseFieldDescriptor (T k).2.2.1 = some ty) (hn : narrow ty v = v) (hfit : fits ty v = true) (hl : k < fs.length)
    (hg : gs'.flatten = gs.flatten.set q0 (q, .inr (ci, fs.set k v))) (hdg : decode cc pc = .ok (.putfield index, 3)) (kk : ∀ (H1 : Heap) (locs1 : List Loc), va_P D vwCl gs'.flatten H1 → va_D A gs'.flatten → va_S A H0 H1 locs1 → W p l e R s m args below meth c H1 locs1 cells slots Q (F0 m (pc + 3) ls rest)) : W p l e R s m args below meth c H locs cells slots Q (F0 m pc ls (v :: .ref q :: rest)) := by
  rw [hg] at kk
  exact va_put hexec hb hts hin ty0 hty hnm hown hK hP hD hS0 q0 he hc k hk hlink hsame hfin hd hn hfit hl hdg kk
theorem z_copyi {gs gs' : List va_W} {q : Nat} (hexec : p.tables.exec = Jvm.exec) (hb : c.code = cc) (hml : c.maxLocals = ls.size) {own : String} {index : Nat} (hown : s.vm.findClass own = some m.cls) (hlink : (Cond.methodLink own index arraycopyName).before args s = true) (hnat : (Cond.native arraycopyName).before args s = true) (hstat : (Cond.static arraycopyName).before args s = true) (hini : (Cond.initialized "java/lang/System").before args s = true)
    (hK : va_K D vwCl tys s) (hP : va_P D vwCl gs.flatten H) (hD : va_D A gs.flatten) (hS : va_S A H0 H locs) (q0 q1 t0 t1 : Nat) {a0 : Nat} {c0 c1 : ClassId} {n0 n1 : Nat} {f g : Nat → Int32} {ty : FieldType} (ha0 : gs.flatten[q0]? = some (a0, .inl (c0, n0, .inl f))) (ha1 : gs.flatten[q1]? = some (q, .inl (c1, n1, .inl g))) (ht0 : tys[t0]? = some (c0, ty)) (ht1 : tys[t1]? = some (c1, ty)) (hprim : refKind ty = false)
    {sp dp n : Int32} (h1 : ¬ sp < 0) (h2 : ¬ dp < 0) (h3 : ¬ n < 0) (h4 : sp.toNatClampNeg + n.toNatClampNeg ≤ n0) (h5 : dp.toNatClampNeg + n.toNatClampNeg ≤ n1) (hfit : ∀ i, i < n.toNatClampNeg → fits ty (.int (f (sp.toNatClampNeg + i))) = true)
    (hframes : 1 ≤ R.frames) (hlocals : (rest.map fun v => v.category).sum + (nativeFrameWords "java/lang/System" "arraycopy" 5 + 11) ≤ R.locals) (hg : gs'.flatten = gs.flatten.set q1 (q, .inl (c1, n1, .inl (va_cpy f g sp.toNatClampNeg dp.toNatClampNeg n.toNatClampNeg)))) (hdg : decode cc pc = .ok (.invokestatic index, 3))
    (kk : ∀ (H1 : Heap) (locs1 : List Loc), va_P D vwCl gs'.flatten H1 → va_D A gs'.flatten → va_S A H0 H1 locs1 → W p l e R s m args below meth c H1 locs1 cells slots Q (F0 m (pc + 3) ls rest)) : W p l e R s m args below meth c H locs cells slots Q (F0 m pc ls (.int n :: .int dp :: .ref q :: .int sp :: .ref a0 :: rest)) := by
  rw [hg] at kk
  exact va_copyi hexec hb hml hown hlink hnat hstat hini hK hP hD hS q0 q1 t0 t1 ha0 ha1 ht0 ht1 hprim h1 h2 h3 h4 h5 hfit hframes hlocals hdg kk
theorem zheap {g : JFrame} (hH : H = s.heap) (hl : locs = []) (k : W p l e R s m args below meth c H locs cells slots Q g) : W p l e R s m args below meth c s.heap [] cells slots Q g := by
  subst hH; subst hl
  exact k
-- ends
theorem zR_ret {v r : Int32} {ty : FieldType} (hexec : p.tables.exec = Jvm.exec) (hb : c.code = cc) (hr : meth.sig.returnType = some ty) (hn : narrow ty (.int v) = .int v) (hf : some v = some r) (hlocks : meth.locks = false) (hdg : decode cc pc = .ok (.ireturn, 1)) : W p l e R s m args below meth c s.heap [] cells slots (MQ below (zqR (some (.int r))) args s cells slots (fun _ => False)) (F0 m pc ls [.int v]) := by
  cases hf
  exact W.zret hexec hb hr hn (fun t ht _ => ⟨rfl, ht⟩) (fun _ h => nomatch h) hdg hlocks
theorem zM_ret {v : Int32} {r : Option Value} {ty : FieldType} {gs gs' : List va_W} (hexec : p.tables.exec = Jvm.exec) (hb : c.code = cc) (hr : meth.sig.returnType = some ty) (hn : narrow ty (.int v) = .int v) (hP : va_P D vwCl gs.flatten H) (hD : va_D A gs.flatten) (hS : va_S A s.heap H locs) (hf : some (.int v) = r ∧ gs = gs') (hlocks : meth.locks = false) (hdg : decode cc pc = .ok (.ireturn, 1)) : W p l e R s m args below meth c H locs cells slots (MQ below (zqM D r gs' A) args s cells slots A) (F0 m pc ls [.int v]) := by
  obtain ⟨rfl, rfl⟩ := hf
  exact W.zret hexec hb hr hn (fun t ht _ => ⟨rfl, by rw [ht]; exact hP, hD, hS.F ht⟩) hS.2.2 hdg hlocks
theorem zM_vret {r : Option Value} {gs gs' : List va_W} (hexec : p.tables.exec = Jvm.exec) (hb : c.code = cc) (hr : meth.sig.returnType = none) (hP : va_P D vwCl gs.flatten H) (hD : va_D A gs.flatten) (hS : va_S A s.heap H locs) (hf : none = r ∧ gs = gs') (hlocks : meth.locks = false) (hdg : decode cc pc = .ok (.return_, 1)) : W p l e R s m args below meth c H locs cells slots (MQ below (zqM D r gs' A) args s cells slots A) (F0 m pc ls []) := by
  obtain ⟨rfl, rfl⟩ := hf
  exact W.vret hexec hb hr (fun t ht _ => ⟨rfl, by rw [ht]; exact hP, hD, hS.F ht⟩) hS.2.2 hdg hlocks
end ZC
-- entries
theorem zR_in {l : Launch} {D : va_G} {tys : List (ClassId × FieldType)} {y : MethodName} {ws ws' : List Cond} {rm : Room} {as : List Value} {gs : List va_W} {r : Option Value} {cc : ByteArray} {maxL : Nat} {ret : Option FieldType} (hy : plainName y.cls = true) (hw : ws = Cond.code y cc maxL ret :: ws') (hlen : (lg_sl as).length ≤ maxL)
    (body : ∀ (p : Program) (e : Env) (s : State) (m : MethodId) (below : List Frame) (meth : Method) (c : Code), p.tables.exec = Jvm.exec → c.code = cc → c.maxLocals = maxL → meth.sig.returnType = ret → meth.locks = false → s.vm.findClass y.cls = some m.cls → (∀ w ∈ ws, w.before as.toArray s = true) → va_K D vwCl tys s → zN s → va_P D vwCl gs.flatten s.heap → ∀ ls : Array Slot, lv_has ls maxL (lv_args 0 as) → W p l e (headSpec ws rm).room s m as.toArray below meth c s.heap [] 0 0 (MQ below (zqR r) as.toArray s 0 0 (fun _ => False)) (F0 m 0 ls [])) : cR l D tys y ws rm as gs r := by
  refine Met.ofW (cc := cc) (maxL := maxL) (ret := ret) hy hw ?_
  intro p e s m args below meth c s₁ B hml hv
  obtain ⟨rfl, hP, hK, hN⟩ := hv
  have hl := lv_entry as (n := maxL) hlen
  rw [lg_entry_eq]
  exact body p e s m below meth c B.exec B.bytes hml B.returns B.notSynchronized (findClass_of_methodNamed B.named) (atoms_spec (ws := ws) B.pre) hK hN hP _ hl
theorem zM_in {l : Launch} {D : va_G} {tys : List (ClassId × FieldType)} {y : MethodName} {ws ws' : List Cond} {rm : Room} {as : List Value} {gs gs' : List va_W} {r : Option Value} {mc ms : Nat} {cc : ByteArray} {maxL : Nat} {ret : Option FieldType} (hy : plainName y.cls = true) (hw : ws = Cond.code y cc maxL ret :: ws') (hlen : (lg_sl as).length ≤ maxL)
    (body : ∀ (p : Program) (e : Env) (s : State) (m : MethodId) (below : List Frame) (meth : Method) (c : Code), p.tables.exec = Jvm.exec → c.code = cc → c.maxLocals = maxL → meth.sig.returnType = ret → meth.locks = false → s.vm.findClass y.cls = some m.cls → (∀ w ∈ ws, w.before as.toArray s = true) → va_K D vwCl tys s → zN s → ∀ A : Nat → Prop, (∀ q, s.heap.size ≤ q → A q) → va_P D vwCl gs.flatten s.heap → va_D A gs.flatten → va_S A s.heap s.heap [] → ∀ ls : Array Slot, lv_has ls maxL (lv_args 0 as) → W p l e (headSpec ws rm).room s m as.toArray below meth c s.heap [] 0 0 (MQ below (zqM D r gs' A) as.toArray s mc ms A) (F0 m 0 ls [])) : cM l D tys y ws rm as gs gs' r mc ms := by
  intro sz
  refine Met.ofW (cc := cc) (maxL := maxL) (ret := ret) hy hw ?_
  intro p e s m args below meth c s₁ B hml hv
  obtain ⟨rfl, hsz, hP, hK, hD0, hN⟩ := hv
  subst hsz
  have hl := lv_entry as (n := maxL) hlen
  rw [lg_entry_eq]
  exact body p e s m below meth c B.exec B.bytes hml B.returns B.notSynchronized (findClass_of_methodNamed B.named) (atoms_spec (ws := ws) B.pre) hK hN (va_A gs.flatten s.heap.size) (fun q h => Or.inr h) hP (hD0.self (sz := s.heap.size)) va_S.rf _ hl
-- the groups
def wX0 (cI : ClassId) (q : Nat) (a : Nat → Nat) (g : zG) : va_W := [(q, .inr (0, [.ref (a 0), .ref (a 1), .int (g 2 0), .ref (a 3), .ref (a 4), .ref (a 5), .ref (a 6), .ref (a 7), .int (g 8 0), .int (g 9 0)])), (a 0, .inl (cI, 8, .inl (g 0))), (a 1, .inl (cI, 8, .inl (g 1))), (a 3, .inl (cI, 8, .inl (g 3))), (a 4, .inl (cI, 8, .inl (g 4))), (a 5, .inl (cI, 8, .inl (g 5))), (a 6, .inl (cI, 8, .inl (g 6))), (a 7, .inl (cI, 8, .inl (g 7)))]
def wX1 (cI : ClassId) (q : Nat) (a : Nat → Nat) (g : zG) : va_W := [(q, .inr (1, [.ref (a 0), .ref (a 1), .ref (a 2), .int (g 3 0)])), (a 0, .inl (cI, 8, .inl (g 0))), (a 1, .inl (cI, 8, .inl (g 1))), (a 2, .inl (cI, 8, .inl (g 2)))]
def wX2 (q : Nat) (g : zG) : va_W := [(q, .inr (2, [.int (g 0 0), .int (g 1 0), .int (g 2 0)]))]
def wX3 (cO : ClassId) (q : Nat) (a : Nat → Nat) (g : zG) (rm : Nat → Option Nat) : va_W := [(q, .inr (3, [.ref (a 0), .int (g 1 0)])), (a 0, .inl (cO, 4, .inr (.inr (.inr (.inr rm)))))]
def wX4 (cI : ClassId) (q : Nat) (a : Nat → Nat) (g : zG) : va_W := [(q, .inr (4, [.ref (a 0), .ref (a 1), .ref (a 2), .ref (a 3), .int (g 4 0)])), (a 0, .inl (cI, 8, .inl (g 0))), (a 1, .inl (cI, 8, .inl (g 1))), (a 2, .inl (cI, 8, .inl (g 2))), (a 3, .inl (cI, 8, .inl (g 3)))]
def wX5 (cI cC : ClassId) (q : Nat) (a : Nat → Nat) (g : zG) : va_W := [(q, .inr (5, [.ref (a 0), .int (g 1 0), .int (g 2 0), .ref (a 3), .int (g 4 0)])), (a 0, .inl (cC, 60, .inl (g 0))), (a 3, .inl (cI, 3, .inl (g 3)))]
def wX6 (q : Nat) (b : Nat → Nat) (g : zG) : va_W := [(q, .inr (6, [.ref (b 0), .ref (b 1), .ref (b 2), .ref (b 3), .ref (b 4), .ref (b 5), .ref (b 6), .int (g 7 0), .int (g 8 0), .int (g 9 0), .int (g 10 0)]))]
def wX7 (cI : ClassId) (q : Nat) (a : Nat → Nat) (g : zG) : va_W := [(q, .inr (7, [.ref (a 0), .ref (a 1), .ref (a 2), .ref (a 3), .int (g 4 0), .int (g 5 0), .ref (a 6), .int (g 7 0), .int (g 8 0), .int (g 9 0), .int (g 10 0), .int (g 11 0), .ref (a 12), .ref (a 13), .int (g 14 0), .int (g 15 0), .int (g 16 0), .int (g 17 0), .int (g 18 0), .int (g 19 0), .ref (a 20)])), (a 0, .inl (cI, 59, .inl (g 0))), (a 1, .inl (cI, 236, .inl (g 1))), (a 2, .inl (cI, 59, .inl (g 2))), (a 3, .inl (cI, 59, .inl (g 3))), (a 6, .inl (cI, 60, .inl (g 6))), (a 12, .inl (cI, 8, .inl (g 12))), (a 13, .inl (cI, 8, .inl (g 13))), (a 20, .inl (cI, 3, .inl (g 20)))]
end
section
set_option maxRecDepth 20000 in
theorem dX0_init_0 : decode cX0_init 0 = .ok (.aload_n 0, 1) := by decide +kernel
theorem dX0_init_1 : decode cX0_init 1 = .ok (.invokespecial 3, 3) := by decide +kernel
theorem dX0_init_4 : decode cX0_init 4 = .ok (.aload_n 0, 1) := by decide +kernel
theorem dX0_init_5 : decode cX0_init 5 = .ok (.bipush 8, 2) := by decide +kernel
theorem dX0_init_7 : decode cX0_init 7 = .ok (.newarray .int, 2) := by decide +kernel
theorem dX0_init_9 : decode cX0_init 9 = .ok (.putfield 9, 3) := by decide +kernel
theorem dX0_init_12 : decode cX0_init 12 = .ok (.aload_n 0, 1) := by decide +kernel
theorem dX0_init_13 : decode cX0_init 13 = .ok (.bipush 8, 2) := by decide +kernel
theorem dX0_init_15 : decode cX0_init 15 = .ok (.newarray .int, 2) := by decide +kernel
theorem dX0_init_17 : decode cX0_init 17 = .ok (.putfield 15, 3) := by decide +kernel
theorem dX0_init_20 : decode cX0_init 20 = .ok (.aload_n 0, 1) := by decide +kernel
theorem dX0_init_21 : decode cX0_init 21 = .ok (.iconst 0, 1) := by decide +kernel
theorem dX0_init_22 : decode cX0_init 22 = .ok (.putfield 18, 3) := by decide +kernel
theorem dX0_init_25 : decode cX0_init 25 = .ok (.aload_n 0, 1) := by decide +kernel
theorem dX0_init_26 : decode cX0_init 26 = .ok (.bipush 8, 2) := by decide +kernel
theorem dX0_init_28 : decode cX0_init 28 = .ok (.newarray .int, 2) := by decide +kernel
theorem dX0_init_30 : decode cX0_init 30 = .ok (.putfield 22, 3) := by decide +kernel
theorem dX0_init_33 : decode cX0_init 33 = .ok (.aload_n 0, 1) := by decide +kernel
theorem dX0_init_34 : decode cX0_init 34 = .ok (.bipush 8, 2) := by decide +kernel
theorem dX0_init_36 : decode cX0_init 36 = .ok (.newarray .int, 2) := by decide +kernel
theorem dX0_init_38 : decode cX0_init 38 = .ok (.putfield 25, 3) := by decide +kernel
theorem dX0_init_41 : decode cX0_init 41 = .ok (.aload_n 0, 1) := by decide +kernel
theorem dX0_init_42 : decode cX0_init 42 = .ok (.bipush 8, 2) := by decide +kernel
theorem dX0_init_44 : decode cX0_init 44 = .ok (.newarray .int, 2) := by decide +kernel
theorem dX0_init_46 : decode cX0_init 46 = .ok (.putfield 28, 3) := by decide +kernel
theorem dX0_init_49 : decode cX0_init 49 = .ok (.aload_n 0, 1) := by decide +kernel
theorem dX0_init_50 : decode cX0_init 50 = .ok (.bipush 8, 2) := by decide +kernel
theorem dX0_init_52 : decode cX0_init 52 = .ok (.newarray .int, 2) := by decide +kernel
theorem dX0_init_54 : decode cX0_init 54 = .ok (.putfield 31, 3) := by decide +kernel
theorem dX0_init_57 : decode cX0_init 57 = .ok (.aload_n 0, 1) := by decide +kernel
theorem dX0_init_58 : decode cX0_init 58 = .ok (.bipush 8, 2) := by decide +kernel
theorem dX0_init_60 : decode cX0_init 60 = .ok (.newarray .int, 2) := by decide +kernel
theorem dX0_init_62 : decode cX0_init 62 = .ok (.putfield 34, 3) := by decide +kernel
theorem dX0_init_65 : decode cX0_init 65 = .ok (.aload_n 0, 1) := by decide +kernel
theorem dX0_init_66 : decode cX0_init 66 = .ok (.iconst 0, 1) := by decide +kernel
theorem dX0_init_67 : decode cX0_init 67 = .ok (.putfield 37, 3) := by decide +kernel
theorem dX0_init_70 : decode cX0_init 70 = .ok (.aload_n 0, 1) := by decide +kernel
theorem dX0_init_71 : decode cX0_init 71 = .ok (.bipush 20, 2) := by decide +kernel
theorem dX0_init_73 : decode cX0_init 73 = .ok (.putfield 40, 3) := by decide +kernel
theorem dX0_init_76 : decode cX0_init 76 = .ok (.return_, 1) := by decide +kernel
theorem dX0_copyFrom_0 : decode cX0_copyFrom 0 = .ok (.aload_n 1, 1) := by decide +kernel
theorem dX0_copyFrom_1 : decode cX0_copyFrom 1 = .ok (.getfield 9, 3) := by decide +kernel
theorem dX0_copyFrom_4 : decode cX0_copyFrom 4 = .ok (.iconst 0, 1) := by decide +kernel
theorem dX0_copyFrom_5 : decode cX0_copyFrom 5 = .ok (.aload_n 0, 1) := by decide +kernel
theorem dX0_copyFrom_6 : decode cX0_copyFrom 6 = .ok (.getfield 9, 3) := by decide +kernel
theorem dX0_copyFrom_9 : decode cX0_copyFrom 9 = .ok (.iconst 0, 1) := by decide +kernel
theorem dX0_copyFrom_10 : decode cX0_copyFrom 10 = .ok (.bipush 8, 2) := by decide +kernel
theorem dX0_copyFrom_12 : decode cX0_copyFrom 12 = .ok (.invokestatic 43, 3) := by decide +kernel
theorem dX0_copyFrom_15 : decode cX0_copyFrom 15 = .ok (.aload_n 1, 1) := by decide +kernel
theorem dX0_copyFrom_16 : decode cX0_copyFrom 16 = .ok (.getfield 15, 3) := by decide +kernel
theorem dX0_copyFrom_19 : decode cX0_copyFrom 19 = .ok (.iconst 0, 1) := by decide +kernel
theorem dX0_copyFrom_20 : decode cX0_copyFrom 20 = .ok (.aload_n 0, 1) := by decide +kernel
theorem dX0_copyFrom_21 : decode cX0_copyFrom 21 = .ok (.getfield 15, 3) := by decide +kernel
theorem dX0_copyFrom_24 : decode cX0_copyFrom 24 = .ok (.iconst 0, 1) := by decide +kernel
theorem dX0_copyFrom_25 : decode cX0_copyFrom 25 = .ok (.bipush 8, 2) := by decide +kernel
theorem dX0_copyFrom_27 : decode cX0_copyFrom 27 = .ok (.invokestatic 43, 3) := by decide +kernel
theorem dX0_copyFrom_30 : decode cX0_copyFrom 30 = .ok (.aload_n 0, 1) := by decide +kernel
theorem dX0_copyFrom_31 : decode cX0_copyFrom 31 = .ok (.aload_n 1, 1) := by decide +kernel
theorem dX0_copyFrom_32 : decode cX0_copyFrom 32 = .ok (.getfield 18, 3) := by decide +kernel
theorem dX0_copyFrom_35 : decode cX0_copyFrom 35 = .ok (.putfield 18, 3) := by decide +kernel
theorem dX0_copyFrom_38 : decode cX0_copyFrom 38 = .ok (.aload_n 1, 1) := by decide +kernel
theorem dX0_copyFrom_39 : decode cX0_copyFrom 39 = .ok (.getfield 22, 3) := by decide +kernel
theorem dX0_copyFrom_42 : decode cX0_copyFrom 42 = .ok (.iconst 0, 1) := by decide +kernel
theorem dX0_copyFrom_43 : decode cX0_copyFrom 43 = .ok (.aload_n 0, 1) := by decide +kernel
theorem dX0_copyFrom_44 : decode cX0_copyFrom 44 = .ok (.getfield 22, 3) := by decide +kernel
theorem dX0_copyFrom_47 : decode cX0_copyFrom 47 = .ok (.iconst 0, 1) := by decide +kernel
theorem dX0_copyFrom_48 : decode cX0_copyFrom 48 = .ok (.bipush 8, 2) := by decide +kernel
theorem dX0_copyFrom_50 : decode cX0_copyFrom 50 = .ok (.invokestatic 43, 3) := by decide +kernel
theorem dX0_copyFrom_53 : decode cX0_copyFrom 53 = .ok (.aload_n 1, 1) := by decide +kernel
theorem dX0_copyFrom_54 : decode cX0_copyFrom 54 = .ok (.getfield 25, 3) := by decide +kernel
theorem dX0_copyFrom_57 : decode cX0_copyFrom 57 = .ok (.iconst 0, 1) := by decide +kernel
theorem dX0_copyFrom_58 : decode cX0_copyFrom 58 = .ok (.aload_n 0, 1) := by decide +kernel
theorem dX0_copyFrom_59 : decode cX0_copyFrom 59 = .ok (.getfield 25, 3) := by decide +kernel
theorem dX0_copyFrom_62 : decode cX0_copyFrom 62 = .ok (.iconst 0, 1) := by decide +kernel
theorem dX0_copyFrom_63 : decode cX0_copyFrom 63 = .ok (.bipush 8, 2) := by decide +kernel
theorem dX0_copyFrom_65 : decode cX0_copyFrom 65 = .ok (.invokestatic 43, 3) := by decide +kernel
theorem dX0_copyFrom_68 : decode cX0_copyFrom 68 = .ok (.aload_n 1, 1) := by decide +kernel
theorem dX0_copyFrom_69 : decode cX0_copyFrom 69 = .ok (.getfield 28, 3) := by decide +kernel
theorem dX0_copyFrom_72 : decode cX0_copyFrom 72 = .ok (.iconst 0, 1) := by decide +kernel
theorem dX0_copyFrom_73 : decode cX0_copyFrom 73 = .ok (.aload_n 0, 1) := by decide +kernel
theorem dX0_copyFrom_74 : decode cX0_copyFrom 74 = .ok (.getfield 28, 3) := by decide +kernel
theorem dX0_copyFrom_77 : decode cX0_copyFrom 77 = .ok (.iconst 0, 1) := by decide +kernel
theorem dX0_copyFrom_78 : decode cX0_copyFrom 78 = .ok (.bipush 8, 2) := by decide +kernel
theorem dX0_copyFrom_80 : decode cX0_copyFrom 80 = .ok (.invokestatic 43, 3) := by decide +kernel
theorem dX0_copyFrom_83 : decode cX0_copyFrom 83 = .ok (.aload_n 1, 1) := by decide +kernel
theorem dX0_copyFrom_84 : decode cX0_copyFrom 84 = .ok (.getfield 31, 3) := by decide +kernel
theorem dX0_copyFrom_87 : decode cX0_copyFrom 87 = .ok (.iconst 0, 1) := by decide +kernel
theorem dX0_copyFrom_88 : decode cX0_copyFrom 88 = .ok (.aload_n 0, 1) := by decide +kernel
theorem dX0_copyFrom_89 : decode cX0_copyFrom 89 = .ok (.getfield 31, 3) := by decide +kernel
theorem dX0_copyFrom_92 : decode cX0_copyFrom 92 = .ok (.iconst 0, 1) := by decide +kernel
theorem dX0_copyFrom_93 : decode cX0_copyFrom 93 = .ok (.bipush 8, 2) := by decide +kernel
theorem dX0_copyFrom_95 : decode cX0_copyFrom 95 = .ok (.invokestatic 43, 3) := by decide +kernel
theorem dX0_copyFrom_98 : decode cX0_copyFrom 98 = .ok (.aload_n 1, 1) := by decide +kernel
theorem dX0_copyFrom_99 : decode cX0_copyFrom 99 = .ok (.getfield 34, 3) := by decide +kernel
theorem dX0_copyFrom_102 : decode cX0_copyFrom 102 = .ok (.iconst 0, 1) := by decide +kernel
theorem dX0_copyFrom_103 : decode cX0_copyFrom 103 = .ok (.aload_n 0, 1) := by decide +kernel
theorem dX0_copyFrom_104 : decode cX0_copyFrom 104 = .ok (.getfield 34, 3) := by decide +kernel
theorem dX0_copyFrom_107 : decode cX0_copyFrom 107 = .ok (.iconst 0, 1) := by decide +kernel
theorem dX0_copyFrom_108 : decode cX0_copyFrom 108 = .ok (.bipush 8, 2) := by decide +kernel
theorem dX0_copyFrom_110 : decode cX0_copyFrom 110 = .ok (.invokestatic 43, 3) := by decide +kernel
theorem dX0_copyFrom_113 : decode cX0_copyFrom 113 = .ok (.aload_n 0, 1) := by decide +kernel
theorem dX0_copyFrom_114 : decode cX0_copyFrom 114 = .ok (.aload_n 1, 1) := by decide +kernel
theorem dX0_copyFrom_115 : decode cX0_copyFrom 115 = .ok (.getfield 37, 3) := by decide +kernel
theorem dX0_copyFrom_118 : decode cX0_copyFrom 118 = .ok (.putfield 37, 3) := by decide +kernel
theorem dX0_copyFrom_121 : decode cX0_copyFrom 121 = .ok (.aload_n 0, 1) := by decide +kernel
theorem dX0_copyFrom_122 : decode cX0_copyFrom 122 = .ok (.aload_n 1, 1) := by decide +kernel
theorem dX0_copyFrom_123 : decode cX0_copyFrom 123 = .ok (.getfield 40, 3) := by decide +kernel
theorem dX0_copyFrom_126 : decode cX0_copyFrom 126 = .ok (.putfield 40, 3) := by decide +kernel
theorem dX0_copyFrom_129 : decode cX0_copyFrom 129 = .ok (.return_, 1) := by decide +kernel
theorem dX0_hasLine_0 : decode cX0_hasLine 0 = .ok (.iload_n 1, 1) := by decide +kernel
theorem dX0_hasLine_1 : decode cX0_hasLine 1 = .ok (.ifCond .lt 21, 3) := by decide +kernel
theorem dX0_hasLine_4 : decode cX0_hasLine 4 = .ok (.iload_n 1, 1) := by decide +kernel
theorem dX0_hasLine_5 : decode cX0_hasLine 5 = .ok (.aload_n 0, 1) := by decide +kernel
theorem dX0_hasLine_6 : decode cX0_hasLine 6 = .ok (.getfield 18, 3) := by decide +kernel
theorem dX0_hasLine_9 : decode cX0_hasLine 9 = .ok (.if_icmp .ge 13, 3) := by decide +kernel
theorem dX0_hasLine_12 : decode cX0_hasLine 12 = .ok (.iload_n 1, 1) := by decide +kernel
theorem dX0_hasLine_13 : decode cX0_hasLine 13 = .ok (.bipush 8, 2) := by decide +kernel
theorem dX0_hasLine_15 : decode cX0_hasLine 15 = .ok (.if_icmp .ge 7, 3) := by decide +kernel
theorem dX0_hasLine_18 : decode cX0_hasLine 18 = .ok (.iconst 1, 1) := by decide +kernel
theorem dX0_hasLine_19 : decode cX0_hasLine 19 = .ok (.goto 4, 3) := by decide +kernel
theorem dX0_hasLine_22 : decode cX0_hasLine 22 = .ok (.iconst 0, 1) := by decide +kernel
theorem dX0_hasLine_23 : decode cX0_hasLine 23 = .ok (.ireturn, 1) := by decide +kernel
theorem dX0_hasThing_0 : decode cX0_hasThing 0 = .ok (.iload_n 1, 1) := by decide +kernel
theorem dX0_hasThing_1 : decode cX0_hasThing 1 = .ok (.ifCond .lt 21, 3) := by decide +kernel
theorem dX0_hasThing_4 : decode cX0_hasThing 4 = .ok (.iload_n 1, 1) := by decide +kernel
theorem dX0_hasThing_5 : decode cX0_hasThing 5 = .ok (.aload_n 0, 1) := by decide +kernel
theorem dX0_hasThing_6 : decode cX0_hasThing 6 = .ok (.getfield 37, 3) := by decide +kernel
theorem dX0_hasThing_9 : decode cX0_hasThing 9 = .ok (.if_icmp .ge 13, 3) := by decide +kernel
theorem dX0_hasThing_12 : decode cX0_hasThing 12 = .ok (.iload_n 1, 1) := by decide +kernel
theorem dX0_hasThing_13 : decode cX0_hasThing 13 = .ok (.bipush 8, 2) := by decide +kernel
theorem dX0_hasThing_15 : decode cX0_hasThing 15 = .ok (.if_icmp .ge 7, 3) := by decide +kernel
theorem dX0_hasThing_18 : decode cX0_hasThing 18 = .ok (.iconst 1, 1) := by decide +kernel
theorem dX0_hasThing_19 : decode cX0_hasThing 19 = .ok (.goto 4, 3) := by decide +kernel
theorem dX0_hasThing_22 : decode cX0_hasThing 22 = .ok (.iconst 0, 1) := by decide +kernel
theorem dX0_hasThing_23 : decode cX0_hasThing 23 = .ok (.ireturn, 1) := by decide +kernel
set_option maxRecDepth 20000 in
theorem ggX0_indexOf_X0_hasThing : GoodIn wsX0_indexOf wsX0_hasThing := goodIn_r _ [6, 7, 8, 9, 10, 11, 12, 13, 14, 15, 16, 17] (by decide +kernel) (by decide +kernel)
set_option maxRecDepth 20000 in
theorem gX0_indexOf_X0_hasThing : GoodIn wsX0_indexOf (wsV RX0 49 RX0 yX0_hasThing wsX0_hasThing) := goodIn_app (goodIn_of _ (by decide +kernel)) ggX0_indexOf_X0_hasThing
theorem dX0_indexOf_0 : decode cX0_indexOf 0 = .ok (.iconst 0, 1) := by decide +kernel
theorem dX0_indexOf_1 : decode cX0_indexOf 1 = .ok (.istore_n 2, 1) := by decide +kernel
theorem dX0_indexOf_2 : decode cX0_indexOf 2 = .ok (.iload_n 2, 1) := by decide +kernel
theorem dX0_indexOf_3 : decode cX0_indexOf 3 = .ok (.bipush 8, 2) := by decide +kernel
theorem dX0_indexOf_5 : decode cX0_indexOf 5 = .ok (.if_icmp .ge 29, 3) := by decide +kernel
theorem dX0_indexOf_8 : decode cX0_indexOf 8 = .ok (.aload_n 0, 1) := by decide +kernel
theorem dX0_indexOf_9 : decode cX0_indexOf 9 = .ok (.iload_n 2, 1) := by decide +kernel
theorem dX0_indexOf_10 : decode cX0_indexOf 10 = .ok (.invokevirtual 49, 3) := by decide +kernel
theorem dX0_indexOf_13 : decode cX0_indexOf 13 = .ok (.ifCond .eq 21, 3) := by decide +kernel
theorem dX0_indexOf_16 : decode cX0_indexOf 16 = .ok (.aload_n 0, 1) := by decide +kernel
theorem dX0_indexOf_17 : decode cX0_indexOf 17 = .ok (.getfield 22, 3) := by decide +kernel
theorem dX0_indexOf_20 : decode cX0_indexOf 20 = .ok (.iload_n 2, 1) := by decide +kernel
theorem dX0_indexOf_21 : decode cX0_indexOf 21 = .ok (.iaload, 1) := by decide +kernel
theorem dX0_indexOf_22 : decode cX0_indexOf 22 = .ok (.iload_n 1, 1) := by decide +kernel
theorem dX0_indexOf_23 : decode cX0_indexOf 23 = .ok (.if_icmp .ne 5, 3) := by decide +kernel
theorem dX0_indexOf_26 : decode cX0_indexOf 26 = .ok (.iload_n 2, 1) := by decide +kernel
theorem dX0_indexOf_27 : decode cX0_indexOf 27 = .ok (.ireturn, 1) := by decide +kernel
theorem dX0_indexOf_28 : decode cX0_indexOf 28 = .ok (.iinc 2 1, 3) := by decide +kernel
theorem dX0_indexOf_31 : decode cX0_indexOf 31 = .ok (.goto (-29), 3) := by decide +kernel
theorem dX0_indexOf_34 : decode cX0_indexOf 34 = .ok (.iconst (-1), 1) := by decide +kernel
theorem dX0_indexOf_35 : decode cX0_indexOf 35 = .ok (.ireturn, 1) := by decide +kernel
set_option maxRecDepth 20000 in
theorem ggX0_thingsAhead_X0_hasThing : GoodIn wsX0_thingsAhead wsX0_hasThing := goodIn_r _ [6, 7, 8, 9, 10, 11, 12, 13, 14, 15, 16, 17] (by decide +kernel) (by decide +kernel)
set_option maxRecDepth 20000 in
theorem gX0_thingsAhead_X0_hasThing : GoodIn wsX0_thingsAhead (wsV RX0 49 RX0 yX0_hasThing wsX0_hasThing) := goodIn_app (goodIn_of _ (by decide +kernel)) ggX0_thingsAhead_X0_hasThing
theorem dX0_thingsAhead_0 : decode cX0_thingsAhead 0 = .ok (.iconst 0, 1) := by decide +kernel
theorem dX0_thingsAhead_1 : decode cX0_thingsAhead 1 = .ok (.istore_n 2, 1) := by decide +kernel
theorem dX0_thingsAhead_2 : decode cX0_thingsAhead 2 = .ok (.iload_n 2, 1) := by decide +kernel
theorem dX0_thingsAhead_3 : decode cX0_thingsAhead 3 = .ok (.bipush 8, 2) := by decide +kernel
theorem dX0_thingsAhead_5 : decode cX0_thingsAhead 5 = .ok (.if_icmp .ge 27, 3) := by decide +kernel
theorem dX0_thingsAhead_8 : decode cX0_thingsAhead 8 = .ok (.aload_n 0, 1) := by decide +kernel
theorem dX0_thingsAhead_9 : decode cX0_thingsAhead 9 = .ok (.iload_n 2, 1) := by decide +kernel
theorem dX0_thingsAhead_10 : decode cX0_thingsAhead 10 = .ok (.invokevirtual 49, 3) := by decide +kernel
theorem dX0_thingsAhead_13 : decode cX0_thingsAhead 13 = .ok (.ifCond .eq 19, 3) := by decide +kernel
theorem dX0_thingsAhead_16 : decode cX0_thingsAhead 16 = .ok (.aload_n 0, 1) := by decide +kernel
theorem dX0_thingsAhead_17 : decode cX0_thingsAhead 17 = .ok (.getfield 22, 3) := by decide +kernel
theorem dX0_thingsAhead_20 : decode cX0_thingsAhead 20 = .ok (.iload_n 2, 1) := by decide +kernel
theorem dX0_thingsAhead_21 : decode cX0_thingsAhead 21 = .ok (.iaload, 1) := by decide +kernel
theorem dX0_thingsAhead_22 : decode cX0_thingsAhead 22 = .ok (.iload_n 1, 1) := by decide +kernel
theorem dX0_thingsAhead_23 : decode cX0_thingsAhead 23 = .ok (.if_icmp .ge 9, 3) := by decide +kernel
theorem dX0_thingsAhead_26 : decode cX0_thingsAhead 26 = .ok (.iinc 2 1, 3) := by decide +kernel
theorem dX0_thingsAhead_29 : decode cX0_thingsAhead 29 = .ok (.goto (-27), 3) := by decide +kernel
theorem dX0_thingsAhead_32 : decode cX0_thingsAhead 32 = .ok (.iload_n 2, 1) := by decide +kernel
theorem dX0_thingsAhead_33 : decode cX0_thingsAhead 33 = .ok (.ireturn, 1) := by decide +kernel
set_option maxRecDepth 20000 in
theorem ggX0_cellOf_J9_floorDiv_7cf53 : GoodIn wsX0_cellOf wsJ9_floorDiv_7cf53 := goodIn_r _ [5] (by decide +kernel) (by decide +kernel)
set_option maxRecDepth 20000 in
theorem gX0_cellOf_J9_floorDiv_7cf53 : GoodIn wsX0_cellOf (va_wsS RX0 53 yJ9_floorDiv_7cf53 wsJ9_floorDiv_7cf53) := goodIn_app (goodIn_of _ (by decide +kernel)) ggX0_cellOf_J9_floorDiv_7cf53
theorem dX0_cellOf_0 : decode cX0_cellOf 0 = .ok (.aload_n 0, 1) := by decide +kernel
theorem dX0_cellOf_1 : decode cX0_cellOf 1 = .ok (.getfield 40, 3) := by decide +kernel
theorem dX0_cellOf_4 : decode cX0_cellOf 4 = .ok (.ifCond .le 14, 3) := by decide +kernel
theorem dX0_cellOf_7 : decode cX0_cellOf 7 = .ok (.iload_n 1, 1) := by decide +kernel
theorem dX0_cellOf_8 : decode cX0_cellOf 8 = .ok (.aload_n 0, 1) := by decide +kernel
theorem dX0_cellOf_9 : decode cX0_cellOf 9 = .ok (.getfield 40, 3) := by decide +kernel
theorem dX0_cellOf_12 : decode cX0_cellOf 12 = .ok (.invokestatic 53, 3) := by decide +kernel
theorem dX0_cellOf_15 : decode cX0_cellOf 15 = .ok (.goto 4, 3) := by decide +kernel
theorem dX0_cellOf_18 : decode cX0_cellOf 18 = .ok (.iconst 0, 1) := by decide +kernel
theorem dX0_cellOf_19 : decode cX0_cellOf 19 = .ok (.ireturn, 1) := by decide +kernel
set_option maxRecDepth 20000 in
theorem ggX0_lightOfAll_X0_hasLine : GoodIn wsX0_lightOfAll wsX0_hasLine := goodIn_r _ [6, 7, 8, 9, 10, 11, 12, 13, 14, 15, 16, 17] (by decide +kernel) (by decide +kernel)
set_option maxRecDepth 20000 in
theorem gX0_lightOfAll_X0_hasLine : GoodIn wsX0_lightOfAll (wsV RX0 59 RX0 yX0_hasLine wsX0_hasLine) := goodIn_app (goodIn_of _ (by decide +kernel)) ggX0_lightOfAll_X0_hasLine
theorem dX0_lightOfAll_0 : decode cX0_lightOfAll 0 = .ok (.iconst 0, 1) := by decide +kernel
theorem dX0_lightOfAll_1 : decode cX0_lightOfAll 1 = .ok (.istore_n 1, 1) := by decide +kernel
theorem dX0_lightOfAll_2 : decode cX0_lightOfAll 2 = .ok (.iconst 0, 1) := by decide +kernel
theorem dX0_lightOfAll_3 : decode cX0_lightOfAll 3 = .ok (.istore_n 2, 1) := by decide +kernel
theorem dX0_lightOfAll_4 : decode cX0_lightOfAll 4 = .ok (.iload_n 2, 1) := by decide +kernel
theorem dX0_lightOfAll_5 : decode cX0_lightOfAll 5 = .ok (.bipush 8, 2) := by decide +kernel
theorem dX0_lightOfAll_7 : decode cX0_lightOfAll 7 = .ok (.if_icmp .ge 26, 3) := by decide +kernel
theorem dX0_lightOfAll_10 : decode cX0_lightOfAll 10 = .ok (.aload_n 0, 1) := by decide +kernel
theorem dX0_lightOfAll_11 : decode cX0_lightOfAll 11 = .ok (.iload_n 2, 1) := by decide +kernel
theorem dX0_lightOfAll_12 : decode cX0_lightOfAll 12 = .ok (.invokevirtual 59, 3) := by decide +kernel
theorem dX0_lightOfAll_15 : decode cX0_lightOfAll 15 = .ok (.ifCond .eq 18, 3) := by decide +kernel
theorem dX0_lightOfAll_18 : decode cX0_lightOfAll 18 = .ok (.iload_n 1, 1) := by decide +kernel
theorem dX0_lightOfAll_19 : decode cX0_lightOfAll 19 = .ok (.aload_n 0, 1) := by decide +kernel
theorem dX0_lightOfAll_20 : decode cX0_lightOfAll 20 = .ok (.getfield 15, 3) := by decide +kernel
theorem dX0_lightOfAll_23 : decode cX0_lightOfAll 23 = .ok (.iload_n 2, 1) := by decide +kernel
theorem dX0_lightOfAll_24 : decode cX0_lightOfAll 24 = .ok (.iaload, 1) := by decide +kernel
theorem dX0_lightOfAll_25 : decode cX0_lightOfAll 25 = .ok (.iadd, 1) := by decide +kernel
theorem dX0_lightOfAll_26 : decode cX0_lightOfAll 26 = .ok (.istore_n 1, 1) := by decide +kernel
theorem dX0_lightOfAll_27 : decode cX0_lightOfAll 27 = .ok (.iinc 2 1, 3) := by decide +kernel
theorem dX0_lightOfAll_30 : decode cX0_lightOfAll 30 = .ok (.goto (-26), 3) := by decide +kernel
theorem dX0_lightOfAll_33 : decode cX0_lightOfAll 33 = .ok (.iload_n 1, 1) := by decide +kernel
theorem dX0_lightOfAll_34 : decode cX0_lightOfAll 34 = .ok (.ireturn, 1) := by decide +kernel
set_option maxRecDepth 20000 in
theorem ggX0_addLine_X6_within : GoodIn wsX0_addLine wsX6_within := goodIn_r _ [8] (by decide +kernel) (by decide +kernel)
set_option maxRecDepth 20000 in
theorem gX0_addLine_X6_within_n62 : GoodIn wsX0_addLine (wsX6_within) := ggX0_addLine_X6_within
theorem dX0_addLine_0 : decode cX0_addLine 0 = .ok (.iload_n 1, 1) := by decide +kernel
theorem dX0_addLine_1 : decode cX0_addLine 1 = .ok (.sipush 380, 3) := by decide +kernel
theorem dX0_addLine_4 : decode cX0_addLine 4 = .ok (.sipush 780, 3) := by decide +kernel
theorem dX0_addLine_7 : decode cX0_addLine 7 = .ok (.invokestatic 62, 3) := by decide +kernel
theorem dX0_addLine_10 : decode cX0_addLine 10 = .ok (.ifCond .eq 14, 3) := by decide +kernel
theorem dX0_addLine_13 : decode cX0_addLine 13 = .ok (.iload_n 2, 1) := by decide +kernel
theorem dX0_addLine_14 : decode cX0_addLine 14 = .ok (.iconst 1, 1) := by decide +kernel
theorem dX0_addLine_15 : decode cX0_addLine 15 = .ok (.sipush 999, 3) := by decide +kernel
theorem dX0_addLine_18 : decode cX0_addLine 18 = .ok (.invokestatic 62, 3) := by decide +kernel
theorem dX0_addLine_21 : decode cX0_addLine 21 = .ok (.ifCond .ne 6, 3) := by decide +kernel
theorem dX0_addLine_24 : decode cX0_addLine 24 = .ok (.ldc 66, 2) := by decide +kernel
theorem dX0_addLine_26 : decode cX0_addLine 26 = .ok (.ireturn, 1) := by decide +kernel
theorem dX0_addLine_27 : decode cX0_addLine 27 = .ok (.aload_n 0, 1) := by decide +kernel
theorem dX0_addLine_28 : decode cX0_addLine 28 = .ok (.getfield 18, 3) := by decide +kernel
theorem dX0_addLine_31 : decode cX0_addLine 31 = .ok (.istore_n 3, 1) := by decide +kernel
theorem dX0_addLine_32 : decode cX0_addLine 32 = .ok (.iload_n 3, 1) := by decide +kernel
theorem dX0_addLine_33 : decode cX0_addLine 33 = .ok (.ifCond .lt 9, 3) := by decide +kernel
theorem dX0_addLine_36 : decode cX0_addLine 36 = .ok (.iload_n 3, 1) := by decide +kernel
theorem dX0_addLine_37 : decode cX0_addLine 37 = .ok (.bipush 8, 2) := by decide +kernel
theorem dX0_addLine_39 : decode cX0_addLine 39 = .ok (.if_icmp .lt 6, 3) := by decide +kernel
theorem dX0_addLine_42 : decode cX0_addLine 42 = .ok (.ldc 67, 2) := by decide +kernel
theorem dX0_addLine_44 : decode cX0_addLine 44 = .ok (.ireturn, 1) := by decide +kernel
theorem dX0_addLine_45 : decode cX0_addLine 45 = .ok (.aload_n 0, 1) := by decide +kernel
theorem dX0_addLine_46 : decode cX0_addLine 46 = .ok (.getfield 9, 3) := by decide +kernel
theorem dX0_addLine_49 : decode cX0_addLine 49 = .ok (.iload_n 3, 1) := by decide +kernel
theorem dX0_addLine_50 : decode cX0_addLine 50 = .ok (.iload_n 1, 1) := by decide +kernel
theorem dX0_addLine_51 : decode cX0_addLine 51 = .ok (.iastore, 1) := by decide +kernel
theorem dX0_addLine_52 : decode cX0_addLine 52 = .ok (.aload_n 0, 1) := by decide +kernel
theorem dX0_addLine_53 : decode cX0_addLine 53 = .ok (.getfield 15, 3) := by decide +kernel
theorem dX0_addLine_56 : decode cX0_addLine 56 = .ok (.iload_n 3, 1) := by decide +kernel
theorem dX0_addLine_57 : decode cX0_addLine 57 = .ok (.iload_n 2, 1) := by decide +kernel
theorem dX0_addLine_58 : decode cX0_addLine 58 = .ok (.iastore, 1) := by decide +kernel
theorem dX0_addLine_59 : decode cX0_addLine 59 = .ok (.aload_n 0, 1) := by decide +kernel
theorem dX0_addLine_60 : decode cX0_addLine 60 = .ok (.iload_n 3, 1) := by decide +kernel
theorem dX0_addLine_61 : decode cX0_addLine 61 = .ok (.iconst 1, 1) := by decide +kernel
theorem dX0_addLine_62 : decode cX0_addLine 62 = .ok (.iadd, 1) := by decide +kernel
theorem dX0_addLine_63 : decode cX0_addLine 63 = .ok (.putfield 18, 3) := by decide +kernel
theorem dX0_addLine_66 : decode cX0_addLine 66 = .ok (.iload_n 3, 1) := by decide +kernel
theorem dX0_addLine_67 : decode cX0_addLine 67 = .ok (.ireturn, 1) := by decide +kernel
set_option maxRecDepth 20000 in
theorem ggX0_changeLight_X0_hasLine : GoodIn wsX0_changeLight wsX0_hasLine := goodIn_r _ [7, 8, 12, 13, 14, 15, 16, 17, 18, 19, 20, 21] (by decide +kernel) (by decide +kernel)
set_option maxRecDepth 20000 in
theorem gX0_changeLight_X0_hasLine : GoodIn wsX0_changeLight (wsV RX0 59 RX0 yX0_hasLine wsX0_hasLine) := goodIn_app (goodIn_of _ (by decide +kernel)) ggX0_changeLight_X0_hasLine
set_option maxRecDepth 20000 in
theorem ggX0_changeLight_X6_within : GoodIn wsX0_changeLight wsX6_within := goodIn_r _ [11] (by decide +kernel) (by decide +kernel)
set_option maxRecDepth 20000 in
theorem gX0_changeLight_X6_within_n62 : GoodIn wsX0_changeLight (wsX6_within) := ggX0_changeLight_X6_within
theorem dX0_changeLight_0 : decode cX0_changeLight 0 = .ok (.aload_n 0, 1) := by decide +kernel
theorem dX0_changeLight_1 : decode cX0_changeLight 1 = .ok (.iload_n 1, 1) := by decide +kernel
theorem dX0_changeLight_2 : decode cX0_changeLight 2 = .ok (.invokevirtual 59, 3) := by decide +kernel
theorem dX0_changeLight_5 : decode cX0_changeLight 5 = .ok (.ifCond .eq 14, 3) := by decide +kernel
theorem dX0_changeLight_8 : decode cX0_changeLight 8 = .ok (.iload_n 2, 1) := by decide +kernel
theorem dX0_changeLight_9 : decode cX0_changeLight 9 = .ok (.iconst 1, 1) := by decide +kernel
theorem dX0_changeLight_10 : decode cX0_changeLight 10 = .ok (.sipush 999, 3) := by decide +kernel
theorem dX0_changeLight_13 : decode cX0_changeLight 13 = .ok (.invokestatic 62, 3) := by decide +kernel
theorem dX0_changeLight_16 : decode cX0_changeLight 16 = .ok (.ifCond .ne 6, 3) := by decide +kernel
theorem dX0_changeLight_19 : decode cX0_changeLight 19 = .ok (.ldc 66, 2) := by decide +kernel
theorem dX0_changeLight_21 : decode cX0_changeLight 21 = .ok (.ireturn, 1) := by decide +kernel
theorem dX0_changeLight_22 : decode cX0_changeLight 22 = .ok (.aload_n 0, 1) := by decide +kernel
theorem dX0_changeLight_23 : decode cX0_changeLight 23 = .ok (.getfield 15, 3) := by decide +kernel
theorem dX0_changeLight_26 : decode cX0_changeLight 26 = .ok (.iload_n 1, 1) := by decide +kernel
theorem dX0_changeLight_27 : decode cX0_changeLight 27 = .ok (.iaload, 1) := by decide +kernel
theorem dX0_changeLight_28 : decode cX0_changeLight 28 = .ok (.istore_n 3, 1) := by decide +kernel
theorem dX0_changeLight_29 : decode cX0_changeLight 29 = .ok (.aload_n 0, 1) := by decide +kernel
theorem dX0_changeLight_30 : decode cX0_changeLight 30 = .ok (.getfield 15, 3) := by decide +kernel
theorem dX0_changeLight_33 : decode cX0_changeLight 33 = .ok (.iload_n 1, 1) := by decide +kernel
theorem dX0_changeLight_34 : decode cX0_changeLight 34 = .ok (.iload_n 2, 1) := by decide +kernel
theorem dX0_changeLight_35 : decode cX0_changeLight 35 = .ok (.iastore, 1) := by decide +kernel
theorem dX0_changeLight_36 : decode cX0_changeLight 36 = .ok (.iload_n 3, 1) := by decide +kernel
theorem dX0_changeLight_37 : decode cX0_changeLight 37 = .ok (.ireturn, 1) := by decide +kernel
set_option maxRecDepth 20000 in
theorem ggX0_addPrism_X6_within : GoodIn wsX0_addPrism wsX6_within := goodIn_r _ [4] (by decide +kernel) (by decide +kernel)
set_option maxRecDepth 20000 in
theorem gX0_addPrism_X6_within_n62 : GoodIn wsX0_addPrism (wsX6_within) := ggX0_addPrism_X6_within
set_option maxRecDepth 20000 in
theorem ggX0_addPrism_X0_addThing : GoodIn wsX0_addPrism wsX0_addThing := goodIn_r _ [9, 10, 11, 12, 13, 14, 15, 16, 17, 18, 19, 20, 8, 21, 22, 23, 24, 25, 26, 27, 28, 29, 30, 31, 32, 33, 34, 35, 36, 37, 38, 39, 40, 41, 42, 43] (by decide +kernel) (by decide +kernel)
set_option maxRecDepth 20000 in
theorem gX0_addPrism_X0_addThing : GoodIn wsX0_addPrism (wsV RX0 68 RX0 yX0_addThing wsX0_addThing) := goodIn_app (goodIn_of _ (by decide +kernel)) ggX0_addPrism_X0_addThing
theorem dX0_addPrism_0 : decode cX0_addPrism 0 = .ok (.iload_n 2, 1) := by decide +kernel
theorem dX0_addPrism_1 : decode cX0_addPrism 1 = .ok (.iconst 0, 1) := by decide +kernel
theorem dX0_addPrism_2 : decode cX0_addPrism 2 = .ok (.iconst 1, 1) := by decide +kernel
theorem dX0_addPrism_3 : decode cX0_addPrism 3 = .ok (.invokestatic 62, 3) := by decide +kernel
theorem dX0_addPrism_6 : decode cX0_addPrism 6 = .ok (.ifCond .eq 19, 3) := by decide +kernel
theorem dX0_addPrism_9 : decode cX0_addPrism 9 = .ok (.iload 4, 2) := by decide +kernel
theorem dX0_addPrism_11 : decode cX0_addPrism 11 = .ok (.iconst 1, 1) := by decide +kernel
theorem dX0_addPrism_12 : decode cX0_addPrism 12 = .ok (.if_icmp .eq 9, 3) := by decide +kernel
theorem dX0_addPrism_15 : decode cX0_addPrism 15 = .ok (.iload 4, 2) := by decide +kernel
theorem dX0_addPrism_17 : decode cX0_addPrism 17 = .ok (.iconst (-1), 1) := by decide +kernel
theorem dX0_addPrism_18 : decode cX0_addPrism 18 = .ok (.if_icmp .ne 7, 3) := by decide +kernel
theorem dX0_addPrism_21 : decode cX0_addPrism 21 = .ok (.iconst 1, 1) := by decide +kernel
theorem dX0_addPrism_22 : decode cX0_addPrism 22 = .ok (.goto 4, 3) := by decide +kernel
theorem dX0_addPrism_25 : decode cX0_addPrism 25 = .ok (.iconst 0, 1) := by decide +kernel
theorem dX0_addPrism_26 : decode cX0_addPrism 26 = .ok (.istore 5, 2) := by decide +kernel
theorem dX0_addPrism_28 : decode cX0_addPrism 28 = .ok (.iload 5, 2) := by decide +kernel
theorem dX0_addPrism_30 : decode cX0_addPrism 30 = .ok (.ifCond .eq 24, 3) := by decide +kernel
theorem dX0_addPrism_33 : decode cX0_addPrism 33 = .ok (.iload_n 1, 1) := by decide +kernel
theorem dX0_addPrism_34 : decode cX0_addPrism 34 = .ok (.iconst 1, 1) := by decide +kernel
theorem dX0_addPrism_35 : decode cX0_addPrism 35 = .ok (.sipush 999, 3) := by decide +kernel
theorem dX0_addPrism_38 : decode cX0_addPrism 38 = .ok (.invokestatic 62, 3) := by decide +kernel
theorem dX0_addPrism_41 : decode cX0_addPrism 41 = .ok (.ifCond .eq 13, 3) := by decide +kernel
theorem dX0_addPrism_44 : decode cX0_addPrism 44 = .ok (.iload_n 3, 1) := by decide +kernel
theorem dX0_addPrism_45 : decode cX0_addPrism 45 = .ok (.iconst 1, 1) := by decide +kernel
theorem dX0_addPrism_46 : decode cX0_addPrism 46 = .ok (.bipush 99, 2) := by decide +kernel
theorem dX0_addPrism_48 : decode cX0_addPrism 48 = .ok (.invokestatic 62, 3) := by decide +kernel
theorem dX0_addPrism_51 : decode cX0_addPrism 51 = .ok (.ifCond .ne 6, 3) := by decide +kernel
theorem dX0_addPrism_54 : decode cX0_addPrism 54 = .ok (.ldc 66, 2) := by decide +kernel
theorem dX0_addPrism_56 : decode cX0_addPrism 56 = .ok (.ireturn, 1) := by decide +kernel
theorem dX0_addPrism_57 : decode cX0_addPrism 57 = .ok (.aload_n 0, 1) := by decide +kernel
theorem dX0_addPrism_58 : decode cX0_addPrism 58 = .ok (.iload_n 1, 1) := by decide +kernel
theorem dX0_addPrism_59 : decode cX0_addPrism 59 = .ok (.iconst 0, 1) := by decide +kernel
theorem dX0_addPrism_60 : decode cX0_addPrism 60 = .ok (.iload_n 2, 1) := by decide +kernel
theorem dX0_addPrism_61 : decode cX0_addPrism 61 = .ok (.iload_n 3, 1) := by decide +kernel
theorem dX0_addPrism_62 : decode cX0_addPrism 62 = .ok (.iload 4, 2) := by decide +kernel
theorem dX0_addPrism_64 : decode cX0_addPrism 64 = .ok (.invokevirtual 68, 3) := by decide +kernel
theorem dX0_addPrism_67 : decode cX0_addPrism 67 = .ok (.ireturn, 1) := by decide +kernel
set_option maxRecDepth 20000 in
theorem ggX0_addSlit_X6_within : GoodIn wsX0_addSlit wsX6_within := goodIn_r _ [4] (by decide +kernel) (by decide +kernel)
set_option maxRecDepth 20000 in
theorem gX0_addSlit_X6_within_n62 : GoodIn wsX0_addSlit (wsX6_within) := ggX0_addSlit_X6_within
set_option maxRecDepth 20000 in
theorem ggX0_addSlit_X0_addThing : GoodIn wsX0_addSlit wsX0_addThing := goodIn_r _ [9, 10, 11, 12, 13, 14, 15, 16, 17, 18, 19, 20, 8, 21, 22, 23, 24, 25, 26, 27, 28, 29, 30, 31, 32, 33, 34, 35, 36, 37, 38, 39, 40, 41, 42, 43] (by decide +kernel) (by decide +kernel)
set_option maxRecDepth 20000 in
theorem gX0_addSlit_X0_addThing : GoodIn wsX0_addSlit (wsV RX0 68 RX0 yX0_addThing wsX0_addThing) := goodIn_app (goodIn_of _ (by decide +kernel)) ggX0_addSlit_X0_addThing
theorem dX0_addSlit_0 : decode cX0_addSlit 0 = .ok (.iload_n 2, 1) := by decide +kernel
theorem dX0_addSlit_1 : decode cX0_addSlit 1 = .ok (.sipush (-9999), 3) := by decide +kernel
theorem dX0_addSlit_4 : decode cX0_addSlit 4 = .ok (.sipush 9999, 3) := by decide +kernel
theorem dX0_addSlit_7 : decode cX0_addSlit 7 = .ok (.invokestatic 62, 3) := by decide +kernel
theorem dX0_addSlit_10 : decode cX0_addSlit 10 = .ok (.ifCond .eq 18, 3) := by decide +kernel
theorem dX0_addSlit_13 : decode cX0_addSlit 13 = .ok (.iload_n 3, 1) := by decide +kernel
theorem dX0_addSlit_14 : decode cX0_addSlit 14 = .ok (.iload_n 2, 1) := by decide +kernel
theorem dX0_addSlit_15 : decode cX0_addSlit 15 = .ok (.sipush 9999, 3) := by decide +kernel
theorem dX0_addSlit_18 : decode cX0_addSlit 18 = .ok (.invokestatic 62, 3) := by decide +kernel
theorem dX0_addSlit_21 : decode cX0_addSlit 21 = .ok (.ifCond .eq 7, 3) := by decide +kernel
theorem dX0_addSlit_24 : decode cX0_addSlit 24 = .ok (.iconst 1, 1) := by decide +kernel
theorem dX0_addSlit_25 : decode cX0_addSlit 25 = .ok (.goto 4, 3) := by decide +kernel
theorem dX0_addSlit_28 : decode cX0_addSlit 28 = .ok (.iconst 0, 1) := by decide +kernel
theorem dX0_addSlit_29 : decode cX0_addSlit 29 = .ok (.istore 4, 2) := by decide +kernel
theorem dX0_addSlit_31 : decode cX0_addSlit 31 = .ok (.iload 4, 2) := by decide +kernel
theorem dX0_addSlit_33 : decode cX0_addSlit 33 = .ok (.ifCond .eq 14, 3) := by decide +kernel
theorem dX0_addSlit_36 : decode cX0_addSlit 36 = .ok (.iload_n 1, 1) := by decide +kernel
theorem dX0_addSlit_37 : decode cX0_addSlit 37 = .ok (.iconst 1, 1) := by decide +kernel
theorem dX0_addSlit_38 : decode cX0_addSlit 38 = .ok (.sipush 999, 3) := by decide +kernel
theorem dX0_addSlit_41 : decode cX0_addSlit 41 = .ok (.invokestatic 62, 3) := by decide +kernel
theorem dX0_addSlit_44 : decode cX0_addSlit 44 = .ok (.ifCond .ne 6, 3) := by decide +kernel
theorem dX0_addSlit_47 : decode cX0_addSlit 47 = .ok (.ldc 66, 2) := by decide +kernel
theorem dX0_addSlit_49 : decode cX0_addSlit 49 = .ok (.ireturn, 1) := by decide +kernel
theorem dX0_addSlit_50 : decode cX0_addSlit 50 = .ok (.aload_n 0, 1) := by decide +kernel
theorem dX0_addSlit_51 : decode cX0_addSlit 51 = .ok (.iload_n 1, 1) := by decide +kernel
theorem dX0_addSlit_52 : decode cX0_addSlit 52 = .ok (.iconst 1, 1) := by decide +kernel
theorem dX0_addSlit_53 : decode cX0_addSlit 53 = .ok (.iload_n 2, 1) := by decide +kernel
theorem dX0_addSlit_54 : decode cX0_addSlit 54 = .ok (.iload_n 3, 1) := by decide +kernel
theorem dX0_addSlit_55 : decode cX0_addSlit 55 = .ok (.iconst 1, 1) := by decide +kernel
theorem dX0_addSlit_56 : decode cX0_addSlit 56 = .ok (.invokevirtual 68, 3) := by decide +kernel
theorem dX0_addSlit_59 : decode cX0_addSlit 59 = .ok (.ireturn, 1) := by decide +kernel
set_option maxRecDepth 20000 in
theorem ggX0_addThing_X0_indexOf : GoodIn wsX0_addThing wsX0_indexOf := goodIn_r _ [13, 4, 14, 15, 16, 12, 17, 2, 26, 27, 28, 29, 30, 31, 32, 33, 34, 35] (by decide +kernel) (by decide +kernel)
set_option maxRecDepth 20000 in
theorem gX0_addThing_X0_indexOf : GoodIn wsX0_addThing (wsV RX0 72 RX0 yX0_indexOf wsX0_indexOf) := goodIn_app (goodIn_of _ (by decide +kernel)) ggX0_addThing_X0_indexOf
set_option maxRecDepth 20000 in
theorem ggX0_addThing_X0_thingsAhead : GoodIn wsX0_addThing wsX0_thingsAhead := goodIn_r _ [21, 4, 14, 15, 16, 12, 17, 2, 26, 27, 28, 29, 30, 31, 32, 33, 34, 35] (by decide +kernel) (by decide +kernel)
set_option maxRecDepth 20000 in
theorem gX0_addThing_X0_thingsAhead : GoodIn wsX0_addThing (wsV RX0 77 RX0 yX0_thingsAhead wsX0_thingsAhead) := goodIn_app (goodIn_of _ (by decide +kernel)) ggX0_addThing_X0_thingsAhead
set_option maxRecDepth 20000 in
theorem ggX0_addThing_X0_copyThing : GoodIn wsX0_addThing wsX0_copyThing := goodIn_r _ [25, 4, 5, 6, 7, 8, 26, 27, 28, 29, 30, 31, 32, 33, 34, 35] (by decide +kernel) (by decide +kernel)
set_option maxRecDepth 20000 in
theorem gX0_addThing_X0_copyThing : GoodIn wsX0_addThing (wsV RX0 80 RX0 yX0_copyThing wsX0_copyThing) := goodIn_app (goodIn_of _ (by decide +kernel)) ggX0_addThing_X0_copyThing
theorem dX0_addThing_0 : decode cX0_addThing 0 = .ok (.aload_n 0, 1) := by decide +kernel
theorem dX0_addThing_1 : decode cX0_addThing 1 = .ok (.iload_n 1, 1) := by decide +kernel
theorem dX0_addThing_2 : decode cX0_addThing 2 = .ok (.invokevirtual 72, 3) := by decide +kernel
theorem dX0_addThing_5 : decode cX0_addThing 5 = .ok (.ifCond .lt 6, 3) := by decide +kernel
theorem dX0_addThing_8 : decode cX0_addThing 8 = .ok (.ldc 76, 2) := by decide +kernel
theorem dX0_addThing_10 : decode cX0_addThing 10 = .ok (.ireturn, 1) := by decide +kernel
theorem dX0_addThing_11 : decode cX0_addThing 11 = .ok (.aload_n 0, 1) := by decide +kernel
theorem dX0_addThing_12 : decode cX0_addThing 12 = .ok (.getfield 37, 3) := by decide +kernel
theorem dX0_addThing_15 : decode cX0_addThing 15 = .ok (.ifCond .lt 12, 3) := by decide +kernel
theorem dX0_addThing_18 : decode cX0_addThing 18 = .ok (.aload_n 0, 1) := by decide +kernel
theorem dX0_addThing_19 : decode cX0_addThing 19 = .ok (.getfield 37, 3) := by decide +kernel
theorem dX0_addThing_22 : decode cX0_addThing 22 = .ok (.bipush 8, 2) := by decide +kernel
theorem dX0_addThing_24 : decode cX0_addThing 24 = .ok (.if_icmp .lt 6, 3) := by decide +kernel
theorem dX0_addThing_27 : decode cX0_addThing 27 = .ok (.ldc 67, 2) := by decide +kernel
theorem dX0_addThing_29 : decode cX0_addThing 29 = .ok (.ireturn, 1) := by decide +kernel
theorem dX0_addThing_30 : decode cX0_addThing 30 = .ok (.aload_n 0, 1) := by decide +kernel
theorem dX0_addThing_31 : decode cX0_addThing 31 = .ok (.iload_n 1, 1) := by decide +kernel
theorem dX0_addThing_32 : decode cX0_addThing 32 = .ok (.invokevirtual 77, 3) := by decide +kernel
theorem dX0_addThing_35 : decode cX0_addThing 35 = .ok (.istore 6, 2) := by decide +kernel
theorem dX0_addThing_37 : decode cX0_addThing 37 = .ok (.aload_n 0, 1) := by decide +kernel
theorem dX0_addThing_38 : decode cX0_addThing 38 = .ok (.getfield 37, 3) := by decide +kernel
theorem dX0_addThing_41 : decode cX0_addThing 41 = .ok (.istore 7, 2) := by decide +kernel
theorem dX0_addThing_43 : decode cX0_addThing 43 = .ok (.iload 7, 2) := by decide +kernel
theorem dX0_addThing_45 : decode cX0_addThing 45 = .ok (.iload 6, 2) := by decide +kernel
theorem dX0_addThing_47 : decode cX0_addThing 47 = .ok (.if_icmp .le 19, 3) := by decide +kernel
theorem dX0_addThing_50 : decode cX0_addThing 50 = .ok (.aload_n 0, 1) := by decide +kernel
theorem dX0_addThing_51 : decode cX0_addThing 51 = .ok (.iload 7, 2) := by decide +kernel
theorem dX0_addThing_53 : decode cX0_addThing 53 = .ok (.iconst 1, 1) := by decide +kernel
theorem dX0_addThing_54 : decode cX0_addThing 54 = .ok (.isub, 1) := by decide +kernel
theorem dX0_addThing_55 : decode cX0_addThing 55 = .ok (.iload 7, 2) := by decide +kernel
theorem dX0_addThing_57 : decode cX0_addThing 57 = .ok (.invokevirtual 80, 3) := by decide +kernel
theorem dX0_addThing_60 : decode cX0_addThing 60 = .ok (.iinc 7 (-1), 3) := by decide +kernel
theorem dX0_addThing_63 : decode cX0_addThing 63 = .ok (.goto (-20), 3) := by decide +kernel
theorem dX0_addThing_66 : decode cX0_addThing 66 = .ok (.aload_n 0, 1) := by decide +kernel
theorem dX0_addThing_67 : decode cX0_addThing 67 = .ok (.getfield 22, 3) := by decide +kernel
theorem dX0_addThing_70 : decode cX0_addThing 70 = .ok (.iload 6, 2) := by decide +kernel
theorem dX0_addThing_72 : decode cX0_addThing 72 = .ok (.iload_n 1, 1) := by decide +kernel
theorem dX0_addThing_73 : decode cX0_addThing 73 = .ok (.iastore, 1) := by decide +kernel
theorem dX0_addThing_74 : decode cX0_addThing 74 = .ok (.aload_n 0, 1) := by decide +kernel
theorem dX0_addThing_75 : decode cX0_addThing 75 = .ok (.getfield 25, 3) := by decide +kernel
theorem dX0_addThing_78 : decode cX0_addThing 78 = .ok (.iload 6, 2) := by decide +kernel
theorem dX0_addThing_80 : decode cX0_addThing 80 = .ok (.iload_n 2, 1) := by decide +kernel
theorem dX0_addThing_81 : decode cX0_addThing 81 = .ok (.iastore, 1) := by decide +kernel
theorem dX0_addThing_82 : decode cX0_addThing 82 = .ok (.aload_n 0, 1) := by decide +kernel
theorem dX0_addThing_83 : decode cX0_addThing 83 = .ok (.getfield 28, 3) := by decide +kernel
theorem dX0_addThing_86 : decode cX0_addThing 86 = .ok (.iload 6, 2) := by decide +kernel
theorem dX0_addThing_88 : decode cX0_addThing 88 = .ok (.iload_n 3, 1) := by decide +kernel
theorem dX0_addThing_89 : decode cX0_addThing 89 = .ok (.iastore, 1) := by decide +kernel
theorem dX0_addThing_90 : decode cX0_addThing 90 = .ok (.aload_n 0, 1) := by decide +kernel
theorem dX0_addThing_91 : decode cX0_addThing 91 = .ok (.getfield 31, 3) := by decide +kernel
theorem dX0_addThing_94 : decode cX0_addThing 94 = .ok (.iload 6, 2) := by decide +kernel
theorem dX0_addThing_96 : decode cX0_addThing 96 = .ok (.iload 4, 2) := by decide +kernel
theorem dX0_addThing_98 : decode cX0_addThing 98 = .ok (.iastore, 1) := by decide +kernel
theorem dX0_addThing_99 : decode cX0_addThing 99 = .ok (.aload_n 0, 1) := by decide +kernel
theorem dX0_addThing_100 : decode cX0_addThing 100 = .ok (.getfield 34, 3) := by decide +kernel
theorem dX0_addThing_103 : decode cX0_addThing 103 = .ok (.iload 6, 2) := by decide +kernel
theorem dX0_addThing_105 : decode cX0_addThing 105 = .ok (.iload 5, 2) := by decide +kernel
theorem dX0_addThing_107 : decode cX0_addThing 107 = .ok (.iastore, 1) := by decide +kernel
theorem dX0_addThing_108 : decode cX0_addThing 108 = .ok (.aload_n 0, 1) := by decide +kernel
theorem dX0_addThing_109 : decode cX0_addThing 109 = .ok (.dup, 1) := by decide +kernel
theorem dX0_addThing_110 : decode cX0_addThing 110 = .ok (.getfield 37, 3) := by decide +kernel
theorem dX0_addThing_113 : decode cX0_addThing 113 = .ok (.iconst 1, 1) := by decide +kernel
theorem dX0_addThing_114 : decode cX0_addThing 114 = .ok (.iadd, 1) := by decide +kernel
theorem dX0_addThing_115 : decode cX0_addThing 115 = .ok (.putfield 37, 3) := by decide +kernel
theorem dX0_addThing_118 : decode cX0_addThing 118 = .ok (.aload_n 0, 1) := by decide +kernel
theorem dX0_addThing_119 : decode cX0_addThing 119 = .ok (.getfield 37, 3) := by decide +kernel
theorem dX0_addThing_122 : decode cX0_addThing 122 = .ok (.ireturn, 1) := by decide +kernel
theorem dX0_copyThing_0 : decode cX0_copyThing 0 = .ok (.aload_n 0, 1) := by decide +kernel
theorem dX0_copyThing_1 : decode cX0_copyThing 1 = .ok (.getfield 22, 3) := by decide +kernel
theorem dX0_copyThing_4 : decode cX0_copyThing 4 = .ok (.iload_n 2, 1) := by decide +kernel
theorem dX0_copyThing_5 : decode cX0_copyThing 5 = .ok (.aload_n 0, 1) := by decide +kernel
theorem dX0_copyThing_6 : decode cX0_copyThing 6 = .ok (.getfield 22, 3) := by decide +kernel
theorem dX0_copyThing_9 : decode cX0_copyThing 9 = .ok (.iload_n 1, 1) := by decide +kernel
theorem dX0_copyThing_10 : decode cX0_copyThing 10 = .ok (.iaload, 1) := by decide +kernel
theorem dX0_copyThing_11 : decode cX0_copyThing 11 = .ok (.iastore, 1) := by decide +kernel
theorem dX0_copyThing_12 : decode cX0_copyThing 12 = .ok (.aload_n 0, 1) := by decide +kernel
theorem dX0_copyThing_13 : decode cX0_copyThing 13 = .ok (.getfield 25, 3) := by decide +kernel
theorem dX0_copyThing_16 : decode cX0_copyThing 16 = .ok (.iload_n 2, 1) := by decide +kernel
theorem dX0_copyThing_17 : decode cX0_copyThing 17 = .ok (.aload_n 0, 1) := by decide +kernel
theorem dX0_copyThing_18 : decode cX0_copyThing 18 = .ok (.getfield 25, 3) := by decide +kernel
theorem dX0_copyThing_21 : decode cX0_copyThing 21 = .ok (.iload_n 1, 1) := by decide +kernel
theorem dX0_copyThing_22 : decode cX0_copyThing 22 = .ok (.iaload, 1) := by decide +kernel
theorem dX0_copyThing_23 : decode cX0_copyThing 23 = .ok (.iastore, 1) := by decide +kernel
theorem dX0_copyThing_24 : decode cX0_copyThing 24 = .ok (.aload_n 0, 1) := by decide +kernel
theorem dX0_copyThing_25 : decode cX0_copyThing 25 = .ok (.getfield 28, 3) := by decide +kernel
theorem dX0_copyThing_28 : decode cX0_copyThing 28 = .ok (.iload_n 2, 1) := by decide +kernel
theorem dX0_copyThing_29 : decode cX0_copyThing 29 = .ok (.aload_n 0, 1) := by decide +kernel
theorem dX0_copyThing_30 : decode cX0_copyThing 30 = .ok (.getfield 28, 3) := by decide +kernel
theorem dX0_copyThing_33 : decode cX0_copyThing 33 = .ok (.iload_n 1, 1) := by decide +kernel
theorem dX0_copyThing_34 : decode cX0_copyThing 34 = .ok (.iaload, 1) := by decide +kernel
theorem dX0_copyThing_35 : decode cX0_copyThing 35 = .ok (.iastore, 1) := by decide +kernel
theorem dX0_copyThing_36 : decode cX0_copyThing 36 = .ok (.aload_n 0, 1) := by decide +kernel
theorem dX0_copyThing_37 : decode cX0_copyThing 37 = .ok (.getfield 31, 3) := by decide +kernel
theorem dX0_copyThing_40 : decode cX0_copyThing 40 = .ok (.iload_n 2, 1) := by decide +kernel
theorem dX0_copyThing_41 : decode cX0_copyThing 41 = .ok (.aload_n 0, 1) := by decide +kernel
theorem dX0_copyThing_42 : decode cX0_copyThing 42 = .ok (.getfield 31, 3) := by decide +kernel
theorem dX0_copyThing_45 : decode cX0_copyThing 45 = .ok (.iload_n 1, 1) := by decide +kernel
theorem dX0_copyThing_46 : decode cX0_copyThing 46 = .ok (.iaload, 1) := by decide +kernel
theorem dX0_copyThing_47 : decode cX0_copyThing 47 = .ok (.iastore, 1) := by decide +kernel
theorem dX0_copyThing_48 : decode cX0_copyThing 48 = .ok (.aload_n 0, 1) := by decide +kernel
theorem dX0_copyThing_49 : decode cX0_copyThing 49 = .ok (.getfield 34, 3) := by decide +kernel
theorem dX0_copyThing_52 : decode cX0_copyThing 52 = .ok (.iload_n 2, 1) := by decide +kernel
theorem dX0_copyThing_53 : decode cX0_copyThing 53 = .ok (.aload_n 0, 1) := by decide +kernel
theorem dX0_copyThing_54 : decode cX0_copyThing 54 = .ok (.getfield 34, 3) := by decide +kernel
theorem dX0_copyThing_57 : decode cX0_copyThing 57 = .ok (.iload_n 1, 1) := by decide +kernel
theorem dX0_copyThing_58 : decode cX0_copyThing 58 = .ok (.iaload, 1) := by decide +kernel
theorem dX0_copyThing_59 : decode cX0_copyThing 59 = .ok (.iastore, 1) := by decide +kernel
theorem dX0_copyThing_60 : decode cX0_copyThing 60 = .ok (.return_, 1) := by decide +kernel
set_option maxRecDepth 20000 in
theorem ggX0_removeThing_X0_indexOf : GoodIn wsX0_removeThing wsX0_indexOf := goodIn_r _ [7, 8, 9, 10, 11, 6, 12, 2, 21, 22, 23, 24, 25, 26, 27, 28, 29, 30] (by decide +kernel) (by decide +kernel)
set_option maxRecDepth 20000 in
theorem gX0_removeThing_X0_indexOf : GoodIn wsX0_removeThing (wsV RX0 72 RX0 yX0_indexOf wsX0_indexOf) := goodIn_app (goodIn_of _ (by decide +kernel)) ggX0_removeThing_X0_indexOf
set_option maxRecDepth 20000 in
theorem ggX0_removeThing_X0_hasThing : GoodIn wsX0_removeThing wsX0_hasThing := goodIn_r _ [12, 2, 21, 22, 23, 24, 25, 26, 27, 28, 29, 30] (by decide +kernel) (by decide +kernel)
set_option maxRecDepth 20000 in
theorem gX0_removeThing_X0_hasThing : GoodIn wsX0_removeThing (wsV RX0 49 RX0 yX0_hasThing wsX0_hasThing) := goodIn_app (goodIn_of _ (by decide +kernel)) ggX0_removeThing_X0_hasThing
set_option maxRecDepth 20000 in
theorem ggX0_removeThing_X0_copyThing : GoodIn wsX0_removeThing wsX0_copyThing := goodIn_r _ [16, 8, 17, 18, 19, 20, 21, 22, 23, 24, 25, 26, 27, 28, 29, 30] (by decide +kernel) (by decide +kernel)
set_option maxRecDepth 20000 in
theorem gX0_removeThing_X0_copyThing : GoodIn wsX0_removeThing (wsV RX0 80 RX0 yX0_copyThing wsX0_copyThing) := goodIn_app (goodIn_of _ (by decide +kernel)) ggX0_removeThing_X0_copyThing
theorem dX0_removeThing_0 : decode cX0_removeThing 0 = .ok (.aload_n 0, 1) := by decide +kernel
theorem dX0_removeThing_1 : decode cX0_removeThing 1 = .ok (.iload_n 1, 1) := by decide +kernel
theorem dX0_removeThing_2 : decode cX0_removeThing 2 = .ok (.invokevirtual 72, 3) := by decide +kernel
theorem dX0_removeThing_5 : decode cX0_removeThing 5 = .ok (.istore_n 2, 1) := by decide +kernel
theorem dX0_removeThing_6 : decode cX0_removeThing 6 = .ok (.aload_n 0, 1) := by decide +kernel
theorem dX0_removeThing_7 : decode cX0_removeThing 7 = .ok (.iload_n 2, 1) := by decide +kernel
theorem dX0_removeThing_8 : decode cX0_removeThing 8 = .ok (.invokevirtual 49, 3) := by decide +kernel
theorem dX0_removeThing_11 : decode cX0_removeThing 11 = .ok (.ifCond .ne 6, 3) := by decide +kernel
theorem dX0_removeThing_14 : decode cX0_removeThing 14 = .ok (.ldc 66, 2) := by decide +kernel
theorem dX0_removeThing_16 : decode cX0_removeThing 16 = .ok (.ireturn, 1) := by decide +kernel
theorem dX0_removeThing_17 : decode cX0_removeThing 17 = .ok (.iload_n 2, 1) := by decide +kernel
theorem dX0_removeThing_18 : decode cX0_removeThing 18 = .ok (.iconst 1, 1) := by decide +kernel
theorem dX0_removeThing_19 : decode cX0_removeThing 19 = .ok (.iadd, 1) := by decide +kernel
theorem dX0_removeThing_20 : decode cX0_removeThing 20 = .ok (.istore_n 3, 1) := by decide +kernel
theorem dX0_removeThing_21 : decode cX0_removeThing 21 = .ok (.iload_n 3, 1) := by decide +kernel
theorem dX0_removeThing_22 : decode cX0_removeThing 22 = .ok (.bipush 8, 2) := by decide +kernel
theorem dX0_removeThing_24 : decode cX0_removeThing 24 = .ok (.if_icmp .ge 25, 3) := by decide +kernel
theorem dX0_removeThing_27 : decode cX0_removeThing 27 = .ok (.aload_n 0, 1) := by decide +kernel
theorem dX0_removeThing_28 : decode cX0_removeThing 28 = .ok (.iload_n 3, 1) := by decide +kernel
theorem dX0_removeThing_29 : decode cX0_removeThing 29 = .ok (.invokevirtual 49, 3) := by decide +kernel
theorem dX0_removeThing_32 : decode cX0_removeThing 32 = .ok (.ifCond .eq 17, 3) := by decide +kernel
theorem dX0_removeThing_35 : decode cX0_removeThing 35 = .ok (.aload_n 0, 1) := by decide +kernel
theorem dX0_removeThing_36 : decode cX0_removeThing 36 = .ok (.iload_n 3, 1) := by decide +kernel
theorem dX0_removeThing_37 : decode cX0_removeThing 37 = .ok (.iload_n 3, 1) := by decide +kernel
theorem dX0_removeThing_38 : decode cX0_removeThing 38 = .ok (.iconst 1, 1) := by decide +kernel
theorem dX0_removeThing_39 : decode cX0_removeThing 39 = .ok (.isub, 1) := by decide +kernel
theorem dX0_removeThing_40 : decode cX0_removeThing 40 = .ok (.invokevirtual 80, 3) := by decide +kernel
theorem dX0_removeThing_43 : decode cX0_removeThing 43 = .ok (.iinc 3 1, 3) := by decide +kernel
theorem dX0_removeThing_46 : decode cX0_removeThing 46 = .ok (.goto (-25), 3) := by decide +kernel
theorem dX0_removeThing_49 : decode cX0_removeThing 49 = .ok (.aload_n 0, 1) := by decide +kernel
theorem dX0_removeThing_50 : decode cX0_removeThing 50 = .ok (.dup, 1) := by decide +kernel
theorem dX0_removeThing_51 : decode cX0_removeThing 51 = .ok (.getfield 37, 3) := by decide +kernel
theorem dX0_removeThing_54 : decode cX0_removeThing 54 = .ok (.iconst 1, 1) := by decide +kernel
theorem dX0_removeThing_55 : decode cX0_removeThing 55 = .ok (.isub, 1) := by decide +kernel
theorem dX0_removeThing_56 : decode cX0_removeThing 56 = .ok (.putfield 37, 3) := by decide +kernel
theorem dX0_removeThing_59 : decode cX0_removeThing 59 = .ok (.aload_n 0, 1) := by decide +kernel
theorem dX0_removeThing_60 : decode cX0_removeThing 60 = .ok (.getfield 37, 3) := by decide +kernel
theorem dX0_removeThing_63 : decode cX0_removeThing 63 = .ok (.ireturn, 1) := by decide +kernel
set_option maxRecDepth 20000 in
theorem ggX0_moveThing_X0_indexOf : GoodIn wsX0_moveThing wsX0_indexOf := goodIn_r _ [11, 12, 13, 14, 15, 10, 16, 17, 38, 39, 40, 41, 42, 43, 44, 45, 46, 47] (by decide +kernel) (by decide +kernel)
set_option maxRecDepth 20000 in
theorem gX0_moveThing_X0_indexOf : GoodIn wsX0_moveThing (wsV RX0 72 RX0 yX0_indexOf wsX0_indexOf) := goodIn_app (goodIn_of _ (by decide +kernel)) ggX0_moveThing_X0_indexOf
set_option maxRecDepth 20000 in
theorem ggX0_moveThing_X0_hasThing : GoodIn wsX0_moveThing wsX0_hasThing := goodIn_r _ [16, 17, 38, 39, 40, 41, 42, 43, 44, 45, 46, 47] (by decide +kernel) (by decide +kernel)
set_option maxRecDepth 20000 in
theorem gX0_moveThing_X0_hasThing : GoodIn wsX0_moveThing (wsV RX0 49 RX0 yX0_hasThing wsX0_hasThing) := goodIn_app (goodIn_of _ (by decide +kernel)) ggX0_moveThing_X0_hasThing
set_option maxRecDepth 20000 in
theorem ggX0_moveThing_X6_within : GoodIn wsX0_moveThing wsX6_within := goodIn_r _ [20] (by decide +kernel) (by decide +kernel)
set_option maxRecDepth 20000 in
theorem gX0_moveThing_X6_within_n62 : GoodIn wsX0_moveThing (wsX6_within) := ggX0_moveThing_X6_within
set_option maxRecDepth 20000 in
theorem ggX0_moveThing_X0_removeThing : GoodIn wsX0_moveThing wsX0_removeThing := goodIn_r _ [24, 1, 17, 7, 8, 9, 10, 11, 12, 13, 14, 15, 16, 25, 26, 27, 28, 3, 4, 5, 6, 38, 39, 40, 41, 42, 43, 44, 45, 46, 47] (by decide +kernel) (by decide +kernel)
set_option maxRecDepth 20000 in
theorem gX0_moveThing_X0_removeThing : GoodIn wsX0_moveThing (wsV RX0 84 RX0 yX0_removeThing wsX0_removeThing) := goodIn_app (goodIn_of _ (by decide +kernel)) ggX0_moveThing_X0_removeThing
set_option maxRecDepth 20000 in
theorem ggX0_moveThing_X0_addThing : GoodIn wsX0_moveThing wsX0_addThing := goodIn_r _ [32, 2, 17, 33, 12, 3, 4, 5, 6, 7, 8, 9, 10, 11, 13, 14, 15, 16, 34, 35, 36, 37, 25, 26, 27, 28, 38, 39, 40, 41, 42, 43, 44, 45, 46, 47] (by decide +kernel) (by decide +kernel)
set_option maxRecDepth 20000 in
theorem gX0_moveThing_X0_addThing : GoodIn wsX0_moveThing (wsV RX0 68 RX0 yX0_addThing wsX0_addThing) := goodIn_app (goodIn_of _ (by decide +kernel)) ggX0_moveThing_X0_addThing
set_option maxRecDepth 20000 in
theorem ggX0_moveThing_X0_thingsAhead : GoodIn wsX0_moveThing wsX0_thingsAhead := goodIn_r _ [37, 12, 13, 14, 15, 10, 16, 17, 38, 39, 40, 41, 42, 43, 44, 45, 46, 47] (by decide +kernel) (by decide +kernel)
set_option maxRecDepth 20000 in
theorem gX0_moveThing_X0_thingsAhead : GoodIn wsX0_moveThing (wsV RX0 77 RX0 yX0_thingsAhead wsX0_thingsAhead) := goodIn_app (goodIn_of _ (by decide +kernel)) ggX0_moveThing_X0_thingsAhead
theorem dX0_moveThing_0 : decode cX0_moveThing 0 = .ok (.aload_n 0, 1) := by decide +kernel
theorem dX0_moveThing_1 : decode cX0_moveThing 1 = .ok (.iload_n 1, 1) := by decide +kernel
theorem dX0_moveThing_2 : decode cX0_moveThing 2 = .ok (.invokevirtual 72, 3) := by decide +kernel
theorem dX0_moveThing_5 : decode cX0_moveThing 5 = .ok (.istore_n 3, 1) := by decide +kernel
theorem dX0_moveThing_6 : decode cX0_moveThing 6 = .ok (.aload_n 0, 1) := by decide +kernel
theorem dX0_moveThing_7 : decode cX0_moveThing 7 = .ok (.iload_n 3, 1) := by decide +kernel
theorem dX0_moveThing_8 : decode cX0_moveThing 8 = .ok (.invokevirtual 49, 3) := by decide +kernel
theorem dX0_moveThing_11 : decode cX0_moveThing 11 = .ok (.ifCond .eq 14, 3) := by decide +kernel
theorem dX0_moveThing_14 : decode cX0_moveThing 14 = .ok (.iload_n 2, 1) := by decide +kernel
theorem dX0_moveThing_15 : decode cX0_moveThing 15 = .ok (.iconst 1, 1) := by decide +kernel
theorem dX0_moveThing_16 : decode cX0_moveThing 16 = .ok (.sipush 999, 3) := by decide +kernel
theorem dX0_moveThing_19 : decode cX0_moveThing 19 = .ok (.invokestatic 62, 3) := by decide +kernel
theorem dX0_moveThing_22 : decode cX0_moveThing 22 = .ok (.ifCond .ne 6, 3) := by decide +kernel
theorem dX0_moveThing_25 : decode cX0_moveThing 25 = .ok (.ldc 66, 2) := by decide +kernel
theorem dX0_moveThing_27 : decode cX0_moveThing 27 = .ok (.ireturn, 1) := by decide +kernel
theorem dX0_moveThing_28 : decode cX0_moveThing 28 = .ok (.aload_n 0, 1) := by decide +kernel
theorem dX0_moveThing_29 : decode cX0_moveThing 29 = .ok (.iload_n 2, 1) := by decide +kernel
theorem dX0_moveThing_30 : decode cX0_moveThing 30 = .ok (.invokevirtual 72, 3) := by decide +kernel
theorem dX0_moveThing_33 : decode cX0_moveThing 33 = .ok (.ifCond .lt 6, 3) := by decide +kernel
theorem dX0_moveThing_36 : decode cX0_moveThing 36 = .ok (.ldc 76, 2) := by decide +kernel
theorem dX0_moveThing_38 : decode cX0_moveThing 38 = .ok (.ireturn, 1) := by decide +kernel
theorem dX0_moveThing_39 : decode cX0_moveThing 39 = .ok (.aload_n 0, 1) := by decide +kernel
theorem dX0_moveThing_40 : decode cX0_moveThing 40 = .ok (.getfield 25, 3) := by decide +kernel
theorem dX0_moveThing_43 : decode cX0_moveThing 43 = .ok (.iload_n 3, 1) := by decide +kernel
theorem dX0_moveThing_44 : decode cX0_moveThing 44 = .ok (.iaload, 1) := by decide +kernel
theorem dX0_moveThing_45 : decode cX0_moveThing 45 = .ok (.istore 4, 2) := by decide +kernel
theorem dX0_moveThing_47 : decode cX0_moveThing 47 = .ok (.aload_n 0, 1) := by decide +kernel
theorem dX0_moveThing_48 : decode cX0_moveThing 48 = .ok (.getfield 28, 3) := by decide +kernel
theorem dX0_moveThing_51 : decode cX0_moveThing 51 = .ok (.iload_n 3, 1) := by decide +kernel
theorem dX0_moveThing_52 : decode cX0_moveThing 52 = .ok (.iaload, 1) := by decide +kernel
theorem dX0_moveThing_53 : decode cX0_moveThing 53 = .ok (.istore 5, 2) := by decide +kernel
theorem dX0_moveThing_55 : decode cX0_moveThing 55 = .ok (.aload_n 0, 1) := by decide +kernel
theorem dX0_moveThing_56 : decode cX0_moveThing 56 = .ok (.getfield 31, 3) := by decide +kernel
theorem dX0_moveThing_59 : decode cX0_moveThing 59 = .ok (.iload_n 3, 1) := by decide +kernel
theorem dX0_moveThing_60 : decode cX0_moveThing 60 = .ok (.iaload, 1) := by decide +kernel
theorem dX0_moveThing_61 : decode cX0_moveThing 61 = .ok (.istore 6, 2) := by decide +kernel
theorem dX0_moveThing_63 : decode cX0_moveThing 63 = .ok (.aload_n 0, 1) := by decide +kernel
theorem dX0_moveThing_64 : decode cX0_moveThing 64 = .ok (.getfield 34, 3) := by decide +kernel
theorem dX0_moveThing_67 : decode cX0_moveThing 67 = .ok (.iload_n 3, 1) := by decide +kernel
theorem dX0_moveThing_68 : decode cX0_moveThing 68 = .ok (.iaload, 1) := by decide +kernel
theorem dX0_moveThing_69 : decode cX0_moveThing 69 = .ok (.istore 7, 2) := by decide +kernel
theorem dX0_moveThing_71 : decode cX0_moveThing 71 = .ok (.aload_n 0, 1) := by decide +kernel
theorem dX0_moveThing_72 : decode cX0_moveThing 72 = .ok (.iload_n 1, 1) := by decide +kernel
theorem dX0_moveThing_73 : decode cX0_moveThing 73 = .ok (.invokevirtual 84, 3) := by decide +kernel
theorem dX0_moveThing_76 : decode cX0_moveThing 76 = .ok (.pop, 1) := by decide +kernel
theorem dX0_moveThing_77 : decode cX0_moveThing 77 = .ok (.aload_n 0, 1) := by decide +kernel
theorem dX0_moveThing_78 : decode cX0_moveThing 78 = .ok (.iload_n 2, 1) := by decide +kernel
theorem dX0_moveThing_79 : decode cX0_moveThing 79 = .ok (.iload 4, 2) := by decide +kernel
theorem dX0_moveThing_81 : decode cX0_moveThing 81 = .ok (.iload 5, 2) := by decide +kernel
theorem dX0_moveThing_83 : decode cX0_moveThing 83 = .ok (.iload 6, 2) := by decide +kernel
theorem dX0_moveThing_85 : decode cX0_moveThing 85 = .ok (.iload 7, 2) := by decide +kernel
theorem dX0_moveThing_87 : decode cX0_moveThing 87 = .ok (.invokevirtual 68, 3) := by decide +kernel
theorem dX0_moveThing_90 : decode cX0_moveThing 90 = .ok (.pop, 1) := by decide +kernel
theorem dX0_moveThing_91 : decode cX0_moveThing 91 = .ok (.aload_n 0, 1) := by decide +kernel
theorem dX0_moveThing_92 : decode cX0_moveThing 92 = .ok (.iload_n 2, 1) := by decide +kernel
theorem dX0_moveThing_93 : decode cX0_moveThing 93 = .ok (.invokevirtual 77, 3) := by decide +kernel
theorem dX0_moveThing_96 : decode cX0_moveThing 96 = .ok (.ireturn, 1) := by decide +kernel
set_option maxRecDepth 20000 in
theorem ggX0_changeSetting_X6_within : GoodIn wsX0_changeSetting wsX6_within := goodIn_r _ [5] (by decide +kernel) (by decide +kernel)
set_option maxRecDepth 20000 in
theorem gX0_changeSetting_X6_within_n62 : GoodIn wsX0_changeSetting (wsX6_within) := ggX0_changeSetting_X6_within
theorem dX0_changeSetting_0 : decode cX0_changeSetting 0 = .ok (.iload_n 1, 1) := by decide +kernel
theorem dX0_changeSetting_1 : decode cX0_changeSetting 1 = .ok (.ifCond .ne 14, 3) := by decide +kernel
theorem dX0_changeSetting_4 : decode cX0_changeSetting 4 = .ok (.iload_n 2, 1) := by decide +kernel
theorem dX0_changeSetting_5 : decode cX0_changeSetting 5 = .ok (.iconst 1, 1) := by decide +kernel
theorem dX0_changeSetting_6 : decode cX0_changeSetting 6 = .ok (.sipush 500, 3) := by decide +kernel
theorem dX0_changeSetting_9 : decode cX0_changeSetting 9 = .ok (.invokestatic 62, 3) := by decide +kernel
theorem dX0_changeSetting_12 : decode cX0_changeSetting 12 = .ok (.ifCond .ne 6, 3) := by decide +kernel
theorem dX0_changeSetting_15 : decode cX0_changeSetting 15 = .ok (.ldc 66, 2) := by decide +kernel
theorem dX0_changeSetting_17 : decode cX0_changeSetting 17 = .ok (.ireturn, 1) := by decide +kernel
theorem dX0_changeSetting_18 : decode cX0_changeSetting 18 = .ok (.aload_n 0, 1) := by decide +kernel
theorem dX0_changeSetting_19 : decode cX0_changeSetting 19 = .ok (.getfield 40, 3) := by decide +kernel
theorem dX0_changeSetting_22 : decode cX0_changeSetting 22 = .ok (.istore_n 3, 1) := by decide +kernel
theorem dX0_changeSetting_23 : decode cX0_changeSetting 23 = .ok (.aload_n 0, 1) := by decide +kernel
theorem dX0_changeSetting_24 : decode cX0_changeSetting 24 = .ok (.iload_n 2, 1) := by decide +kernel
theorem dX0_changeSetting_25 : decode cX0_changeSetting 25 = .ok (.putfield 40, 3) := by decide +kernel
theorem dX0_changeSetting_28 : decode cX0_changeSetting 28 = .ok (.iload_n 3, 1) := by decide +kernel
theorem dX0_changeSetting_29 : decode cX0_changeSetting 29 = .ok (.ireturn, 1) := by decide +kernel
set_option maxRecDepth 20000 in
theorem ggX0_bendAt_X0_hasThing : GoodIn wsX0_bendAt wsX0_hasThing := goodIn_r _ [9, 10, 19, 20, 21, 22, 23, 24, 25, 26, 27, 28] (by decide +kernel) (by decide +kernel)
set_option maxRecDepth 20000 in
theorem gX0_bendAt_X0_hasThing : GoodIn wsX0_bendAt (wsV RX0 49 RX0 yX0_hasThing wsX0_hasThing) := goodIn_app (goodIn_of _ (by decide +kernel)) ggX0_bendAt_X0_hasThing
set_option maxRecDepth 20000 in
theorem ggX0_bendAt_X6_bendingOf : GoodIn wsX0_bendAt wsX6_bendingOf := goodIn_r _ [13, 14, 15, 16, 17] (by decide +kernel) (by decide +kernel)
set_option maxRecDepth 20000 in
theorem gX0_bendAt_X6_bendingOf_n87 : GoodIn wsX0_bendAt (wsX6_bendingOf) := ggX0_bendAt_X6_bendingOf
set_option maxRecDepth 20000 in
theorem ggX0_bendAt_J9_floorDiv_7cf53 : GoodIn wsX0_bendAt wsJ9_floorDiv_7cf53 := goodIn_r _ [17] (by decide +kernel) (by decide +kernel)
set_option maxRecDepth 20000 in
theorem gX0_bendAt_J9_floorDiv_7cf53 : GoodIn wsX0_bendAt (va_wsS RX0 53 yJ9_floorDiv_7cf53 wsJ9_floorDiv_7cf53) := goodIn_app (goodIn_of _ (by decide +kernel)) ggX0_bendAt_J9_floorDiv_7cf53
theorem dX0_bendAt_0 : decode cX0_bendAt 0 = .ok (.aload_n 0, 1) := by decide +kernel
theorem dX0_bendAt_1 : decode cX0_bendAt 1 = .ok (.iload_n 1, 1) := by decide +kernel
theorem dX0_bendAt_2 : decode cX0_bendAt 2 = .ok (.invokevirtual 49, 3) := by decide +kernel
theorem dX0_bendAt_5 : decode cX0_bendAt 5 = .ok (.ifCond .eq 12, 3) := by decide +kernel
theorem dX0_bendAt_8 : decode cX0_bendAt 8 = .ok (.aload_n 0, 1) := by decide +kernel
theorem dX0_bendAt_9 : decode cX0_bendAt 9 = .ok (.getfield 25, 3) := by decide +kernel
theorem dX0_bendAt_12 : decode cX0_bendAt 12 = .ok (.iload_n 1, 1) := by decide +kernel
theorem dX0_bendAt_13 : decode cX0_bendAt 13 = .ok (.iaload, 1) := by decide +kernel
theorem dX0_bendAt_14 : decode cX0_bendAt 14 = .ok (.ifCond .eq 5, 3) := by decide +kernel
theorem dX0_bendAt_17 : decode cX0_bendAt 17 = .ok (.iconst 0, 1) := by decide +kernel
theorem dX0_bendAt_18 : decode cX0_bendAt 18 = .ok (.ireturn, 1) := by decide +kernel
theorem dX0_bendAt_19 : decode cX0_bendAt 19 = .ok (.aload_n 0, 1) := by decide +kernel
theorem dX0_bendAt_20 : decode cX0_bendAt 20 = .ok (.getfield 31, 3) := by decide +kernel
theorem dX0_bendAt_23 : decode cX0_bendAt 23 = .ok (.iload_n 1, 1) := by decide +kernel
theorem dX0_bendAt_24 : decode cX0_bendAt 24 = .ok (.iaload, 1) := by decide +kernel
theorem dX0_bendAt_25 : decode cX0_bendAt 25 = .ok (.aload_n 0, 1) := by decide +kernel
theorem dX0_bendAt_26 : decode cX0_bendAt 26 = .ok (.getfield 28, 3) := by decide +kernel
theorem dX0_bendAt_29 : decode cX0_bendAt 29 = .ok (.iload_n 1, 1) := by decide +kernel
theorem dX0_bendAt_30 : decode cX0_bendAt 30 = .ok (.iaload, 1) := by decide +kernel
theorem dX0_bendAt_31 : decode cX0_bendAt 31 = .ok (.iload_n 2, 1) := by decide +kernel
theorem dX0_bendAt_32 : decode cX0_bendAt 32 = .ok (.invokestatic 87, 3) := by decide +kernel
theorem dX0_bendAt_35 : decode cX0_bendAt 35 = .ok (.imul, 1) := by decide +kernel
theorem dX0_bendAt_36 : decode cX0_bendAt 36 = .ok (.bipush 100, 2) := by decide +kernel
theorem dX0_bendAt_38 : decode cX0_bendAt 38 = .ok (.invokestatic 53, 3) := by decide +kernel
theorem dX0_bendAt_41 : decode cX0_bendAt 41 = .ok (.istore_n 3, 1) := by decide +kernel
theorem dX0_bendAt_42 : decode cX0_bendAt 42 = .ok (.aload_n 0, 1) := by decide +kernel
theorem dX0_bendAt_43 : decode cX0_bendAt 43 = .ok (.getfield 34, 3) := by decide +kernel
theorem dX0_bendAt_46 : decode cX0_bendAt 46 = .ok (.iload_n 1, 1) := by decide +kernel
theorem dX0_bendAt_47 : decode cX0_bendAt 47 = .ok (.iaload, 1) := by decide +kernel
theorem dX0_bendAt_48 : decode cX0_bendAt 48 = .ok (.iconst 1, 1) := by decide +kernel
theorem dX0_bendAt_49 : decode cX0_bendAt 49 = .ok (.if_icmp .ne 7, 3) := by decide +kernel
theorem dX0_bendAt_52 : decode cX0_bendAt 52 = .ok (.iload_n 3, 1) := by decide +kernel
theorem dX0_bendAt_53 : decode cX0_bendAt 53 = .ok (.goto 5, 3) := by decide +kernel
theorem dX0_bendAt_56 : decode cX0_bendAt 56 = .ok (.iload_n 3, 1) := by decide +kernel
theorem dX0_bendAt_57 : decode cX0_bendAt 57 = .ok (.ineg, 1) := by decide +kernel
theorem dX0_bendAt_58 : decode cX0_bendAt 58 = .ok (.ireturn, 1) := by decide +kernel
set_option maxRecDepth 20000 in
theorem ggX0_whyLostAt_X0_isBeyond : GoodIn wsX0_whyLostAt wsX0_isBeyond := goodIn_r _ [7, 8, 9, 10] (by decide +kernel) (by decide +kernel)
set_option maxRecDepth 20000 in
theorem gX0_whyLostAt_X0_isBeyond : GoodIn wsX0_whyLostAt (va_wsS RX0 90 yX0_isBeyond wsX0_isBeyond) := goodIn_app (goodIn_of _ (by decide +kernel)) ggX0_whyLostAt_X0_isBeyond
set_option maxRecDepth 20000 in
theorem ggX0_whyLostAt_X0_hasThing : GoodIn wsX0_whyLostAt wsX0_hasThing := goodIn_r _ [14, 15, 16, 17, 18, 19, 20, 21, 22, 23, 24, 25] (by decide +kernel) (by decide +kernel)
set_option maxRecDepth 20000 in
theorem gX0_whyLostAt_X0_hasThing : GoodIn wsX0_whyLostAt (wsV RX0 49 RX0 yX0_hasThing wsX0_hasThing) := goodIn_app (goodIn_of _ (by decide +kernel)) ggX0_whyLostAt_X0_hasThing
set_option maxRecDepth 20000 in
theorem ggX0_whyLostAt_X6_within : GoodIn wsX0_whyLostAt wsX6_within := goodIn_r _ [10] (by decide +kernel) (by decide +kernel)
set_option maxRecDepth 20000 in
theorem gX0_whyLostAt_X6_within_n62 : GoodIn wsX0_whyLostAt (wsX6_within) := ggX0_whyLostAt_X6_within
theorem dX0_whyLostAt_0 : decode cX0_whyLostAt 0 = .ok (.iload_n 2, 1) := by decide +kernel
theorem dX0_whyLostAt_1 : decode cX0_whyLostAt 1 = .ok (.invokestatic 90, 3) := by decide +kernel
theorem dX0_whyLostAt_4 : decode cX0_whyLostAt 4 = .ok (.ifCond .eq 5, 3) := by decide +kernel
theorem dX0_whyLostAt_7 : decode cX0_whyLostAt 7 = .ok (.iconst 2, 1) := by decide +kernel
theorem dX0_whyLostAt_8 : decode cX0_whyLostAt 8 = .ok (.ireturn, 1) := by decide +kernel
theorem dX0_whyLostAt_9 : decode cX0_whyLostAt 9 = .ok (.aload_n 0, 1) := by decide +kernel
theorem dX0_whyLostAt_10 : decode cX0_whyLostAt 10 = .ok (.iload_n 1, 1) := by decide +kernel
theorem dX0_whyLostAt_11 : decode cX0_whyLostAt 11 = .ok (.invokevirtual 49, 3) := by decide +kernel
theorem dX0_whyLostAt_14 : decode cX0_whyLostAt 14 = .ok (.ifCond .eq 17, 3) := by decide +kernel
theorem dX0_whyLostAt_17 : decode cX0_whyLostAt 17 = .ok (.aload_n 0, 1) := by decide +kernel
theorem dX0_whyLostAt_18 : decode cX0_whyLostAt 18 = .ok (.getfield 25, 3) := by decide +kernel
theorem dX0_whyLostAt_21 : decode cX0_whyLostAt 21 = .ok (.iload_n 1, 1) := by decide +kernel
theorem dX0_whyLostAt_22 : decode cX0_whyLostAt 22 = .ok (.iaload, 1) := by decide +kernel
theorem dX0_whyLostAt_23 : decode cX0_whyLostAt 23 = .ok (.iconst 1, 1) := by decide +kernel
theorem dX0_whyLostAt_24 : decode cX0_whyLostAt 24 = .ok (.if_icmp .ne 7, 3) := by decide +kernel
theorem dX0_whyLostAt_27 : decode cX0_whyLostAt 27 = .ok (.iconst 1, 1) := by decide +kernel
theorem dX0_whyLostAt_28 : decode cX0_whyLostAt 28 = .ok (.goto 4, 3) := by decide +kernel
theorem dX0_whyLostAt_31 : decode cX0_whyLostAt 31 = .ok (.iconst 0, 1) := by decide +kernel
theorem dX0_whyLostAt_32 : decode cX0_whyLostAt 32 = .ok (.istore_n 3, 1) := by decide +kernel
theorem dX0_whyLostAt_33 : decode cX0_whyLostAt 33 = .ok (.iload_n 3, 1) := by decide +kernel
theorem dX0_whyLostAt_34 : decode cX0_whyLostAt 34 = .ok (.ifCond .eq 26, 3) := by decide +kernel
theorem dX0_whyLostAt_37 : decode cX0_whyLostAt 37 = .ok (.iload_n 2, 1) := by decide +kernel
theorem dX0_whyLostAt_38 : decode cX0_whyLostAt 38 = .ok (.aload_n 0, 1) := by decide +kernel
theorem dX0_whyLostAt_39 : decode cX0_whyLostAt 39 = .ok (.getfield 28, 3) := by decide +kernel
theorem dX0_whyLostAt_42 : decode cX0_whyLostAt 42 = .ok (.iload_n 1, 1) := by decide +kernel
theorem dX0_whyLostAt_43 : decode cX0_whyLostAt 43 = .ok (.iaload, 1) := by decide +kernel
theorem dX0_whyLostAt_44 : decode cX0_whyLostAt 44 = .ok (.aload_n 0, 1) := by decide +kernel
theorem dX0_whyLostAt_45 : decode cX0_whyLostAt 45 = .ok (.getfield 31, 3) := by decide +kernel
theorem dX0_whyLostAt_48 : decode cX0_whyLostAt 48 = .ok (.iload_n 1, 1) := by decide +kernel
theorem dX0_whyLostAt_49 : decode cX0_whyLostAt 49 = .ok (.iaload, 1) := by decide +kernel
theorem dX0_whyLostAt_50 : decode cX0_whyLostAt 50 = .ok (.invokestatic 62, 3) := by decide +kernel
theorem dX0_whyLostAt_53 : decode cX0_whyLostAt 53 = .ok (.ifCond .ne 7, 3) := by decide +kernel
theorem dX0_whyLostAt_56 : decode cX0_whyLostAt 56 = .ok (.iconst 1, 1) := by decide +kernel
theorem dX0_whyLostAt_57 : decode cX0_whyLostAt 57 = .ok (.goto 4, 3) := by decide +kernel
theorem dX0_whyLostAt_60 : decode cX0_whyLostAt 60 = .ok (.iconst 0, 1) := by decide +kernel
theorem dX0_whyLostAt_61 : decode cX0_whyLostAt 61 = .ok (.ireturn, 1) := by decide +kernel
set_option maxRecDepth 20000 in
theorem ggX0_isBeyond_X6_within : GoodIn wsX0_isBeyond wsX6_within := goodIn_r _ [3] (by decide +kernel) (by decide +kernel)
set_option maxRecDepth 20000 in
theorem gX0_isBeyond_X6_within_n62 : GoodIn wsX0_isBeyond (wsX6_within) := ggX0_isBeyond_X6_within
theorem dX0_isBeyond_0 : decode cX0_isBeyond 0 = .ok (.iload_n 0, 1) := by decide +kernel
theorem dX0_isBeyond_1 : decode cX0_isBeyond 1 = .ok (.sipush (-999), 3) := by decide +kernel
theorem dX0_isBeyond_4 : decode cX0_isBeyond 4 = .ok (.sipush 999, 3) := by decide +kernel
theorem dX0_isBeyond_7 : decode cX0_isBeyond 7 = .ok (.invokestatic 62, 3) := by decide +kernel
theorem dX0_isBeyond_10 : decode cX0_isBeyond 10 = .ok (.ifCond .ne 7, 3) := by decide +kernel
theorem dX0_isBeyond_13 : decode cX0_isBeyond 13 = .ok (.iconst 1, 1) := by decide +kernel
theorem dX0_isBeyond_14 : decode cX0_isBeyond 14 = .ok (.goto 4, 3) := by decide +kernel
theorem dX0_isBeyond_17 : decode cX0_isBeyond 17 = .ok (.iconst 0, 1) := by decide +kernel
theorem dX0_isBeyond_18 : decode cX0_isBeyond 18 = .ok (.ireturn, 1) := by decide +kernel
theorem dX1_init_0 : decode cX1_init 0 = .ok (.aload_n 0, 1) := by decide +kernel
theorem dX1_init_1 : decode cX1_init 1 = .ok (.invokespecial 3, 3) := by decide +kernel
theorem dX1_init_4 : decode cX1_init 4 = .ok (.aload_n 0, 1) := by decide +kernel
theorem dX1_init_5 : decode cX1_init 5 = .ok (.bipush 8, 2) := by decide +kernel
theorem dX1_init_7 : decode cX1_init 7 = .ok (.newarray .int, 2) := by decide +kernel
theorem dX1_init_9 : decode cX1_init 9 = .ok (.putfield 9, 3) := by decide +kernel
theorem dX1_init_12 : decode cX1_init 12 = .ok (.aload_n 0, 1) := by decide +kernel
theorem dX1_init_13 : decode cX1_init 13 = .ok (.bipush 8, 2) := by decide +kernel
theorem dX1_init_15 : decode cX1_init 15 = .ok (.newarray .int, 2) := by decide +kernel
theorem dX1_init_17 : decode cX1_init 17 = .ok (.putfield 15, 3) := by decide +kernel
theorem dX1_init_20 : decode cX1_init 20 = .ok (.aload_n 0, 1) := by decide +kernel
theorem dX1_init_21 : decode cX1_init 21 = .ok (.bipush 8, 2) := by decide +kernel
theorem dX1_init_23 : decode cX1_init 23 = .ok (.newarray .int, 2) := by decide +kernel
theorem dX1_init_25 : decode cX1_init 25 = .ok (.putfield 18, 3) := by decide +kernel
theorem dX1_init_28 : decode cX1_init 28 = .ok (.aload_n 0, 1) := by decide +kernel
theorem dX1_init_29 : decode cX1_init 29 = .ok (.iconst 0, 1) := by decide +kernel
theorem dX1_init_30 : decode cX1_init 30 = .ok (.putfield 21, 3) := by decide +kernel
theorem dX1_init_33 : decode cX1_init 33 = .ok (.return_, 1) := by decide +kernel
set_option maxRecDepth 20000 in
theorem ggX1_gather_X0_hasLine : GoodIn wsX1_gather wsX0_hasLine := goodIn_r _ [8, 9, 50, 51, 52, 53, 54, 55, 56, 57, 58, 59] (by decide +kernel) (by decide +kernel)
set_option maxRecDepth 20000 in
theorem gX1_gather_X0_hasLine : GoodIn wsX1_gather (wsV RX1 25 RX0 yX0_hasLine wsX0_hasLine) := goodIn_app (goodIn_of _ (by decide +kernel)) ggX1_gather_X0_hasLine
set_option maxRecDepth 20000 in
theorem ggX1_gather_X4_comes : GoodIn wsX1_gather wsX4_comes := goodIn_r _ [14, 15, 45, 46, 47, 48, 49] (by decide +kernel) (by decide +kernel)
set_option maxRecDepth 20000 in
theorem gX1_gather_X4_comes : GoodIn wsX1_gather (wsV RX1 31 RX4 yX4_comes wsX4_comes) := goodIn_app (goodIn_of _ (by decide +kernel)) ggX1_gather_X4_comes
set_option maxRecDepth 20000 in
theorem ggX1_gather_X0_cellOf : GoodIn wsX1_gather wsX0_cellOf := goodIn_r _ [19, 20, 21, 22, 23, 24, 50, 51, 52, 53, 54, 55, 56, 57, 58, 59] (by decide +kernel) (by decide +kernel)
set_option maxRecDepth 20000 in
theorem gX1_gather_X0_cellOf : GoodIn wsX1_gather (wsV RX1 39 RX0 yX0_cellOf wsX0_cellOf) := goodIn_app (goodIn_of _ (by decide +kernel)) ggX1_gather_X0_cellOf
set_option maxRecDepth 20000 in
theorem ggX1_gather_X1_addTo : GoodIn wsX1_gather wsX1_addTo := goodIn_r _ [29, 1, 30, 31, 32, 33, 34, 35, 28, 36, 37, 38, 39, 40, 41, 42, 43, 44] (by decide +kernel) (by decide +kernel)
set_option maxRecDepth 20000 in
theorem gX1_gather_X1_addTo : GoodIn wsX1_gather (wsV RX1 44 RX1 yX1_addTo wsX1_addTo) := goodIn_app (goodIn_of _ (by decide +kernel)) ggX1_gather_X1_addTo
theorem dX1_gather_0 : decode cX1_gather 0 = .ok (.aload_n 0, 1) := by decide +kernel
theorem dX1_gather_1 : decode cX1_gather 1 = .ok (.iconst 0, 1) := by decide +kernel
theorem dX1_gather_2 : decode cX1_gather 2 = .ok (.putfield 21, 3) := by decide +kernel
theorem dX1_gather_5 : decode cX1_gather 5 = .ok (.iconst 0, 1) := by decide +kernel
theorem dX1_gather_6 : decode cX1_gather 6 = .ok (.istore_n 3, 1) := by decide +kernel
theorem dX1_gather_7 : decode cX1_gather 7 = .ok (.iload_n 3, 1) := by decide +kernel
theorem dX1_gather_8 : decode cX1_gather 8 = .ok (.bipush 8, 2) := by decide +kernel
theorem dX1_gather_10 : decode cX1_gather 10 = .ok (.if_icmp .ge 48, 3) := by decide +kernel
theorem dX1_gather_13 : decode cX1_gather 13 = .ok (.aload_n 1, 1) := by decide +kernel
theorem dX1_gather_14 : decode cX1_gather 14 = .ok (.iload_n 3, 1) := by decide +kernel
theorem dX1_gather_15 : decode cX1_gather 15 = .ok (.invokevirtual 25, 3) := by decide +kernel
theorem dX1_gather_18 : decode cX1_gather 18 = .ok (.ifCond .eq 40, 3) := by decide +kernel
theorem dX1_gather_21 : decode cX1_gather 21 = .ok (.aload_n 2, 1) := by decide +kernel
theorem dX1_gather_22 : decode cX1_gather 22 = .ok (.iload_n 3, 1) := by decide +kernel
theorem dX1_gather_23 : decode cX1_gather 23 = .ok (.invokevirtual 31, 3) := by decide +kernel
theorem dX1_gather_26 : decode cX1_gather 26 = .ok (.ifCond .eq 26, 3) := by decide +kernel
theorem dX1_gather_29 : decode cX1_gather 29 = .ok (.aload_n 0, 1) := by decide +kernel
theorem dX1_gather_30 : decode cX1_gather 30 = .ok (.aload_n 1, 1) := by decide +kernel
theorem dX1_gather_31 : decode cX1_gather 31 = .ok (.aload_n 2, 1) := by decide +kernel
theorem dX1_gather_32 : decode cX1_gather 32 = .ok (.getfield 36, 3) := by decide +kernel
theorem dX1_gather_35 : decode cX1_gather 35 = .ok (.iload_n 3, 1) := by decide +kernel
theorem dX1_gather_36 : decode cX1_gather 36 = .ok (.iaload, 1) := by decide +kernel
theorem dX1_gather_37 : decode cX1_gather 37 = .ok (.invokevirtual 39, 3) := by decide +kernel
theorem dX1_gather_40 : decode cX1_gather 40 = .ok (.aload_n 1, 1) := by decide +kernel
theorem dX1_gather_41 : decode cX1_gather 41 = .ok (.getfield 43, 3) := by decide +kernel
theorem dX1_gather_44 : decode cX1_gather 44 = .ok (.iload_n 3, 1) := by decide +kernel
theorem dX1_gather_45 : decode cX1_gather 45 = .ok (.iaload, 1) := by decide +kernel
theorem dX1_gather_46 : decode cX1_gather 46 = .ok (.iconst 1, 1) := by decide +kernel
theorem dX1_gather_47 : decode cX1_gather 47 = .ok (.iload_n 3, 1) := by decide +kernel
theorem dX1_gather_48 : decode cX1_gather 48 = .ok (.ishl, 1) := by decide +kernel
theorem dX1_gather_49 : decode cX1_gather 49 = .ok (.invokevirtual 44, 3) := by decide +kernel
theorem dX1_gather_52 : decode cX1_gather 52 = .ok (.iinc 3 1, 3) := by decide +kernel
theorem dX1_gather_55 : decode cX1_gather 55 = .ok (.goto (-48), 3) := by decide +kernel
theorem dX1_gather_58 : decode cX1_gather 58 = .ok (.return_, 1) := by decide +kernel
set_option maxRecDepth 20000 in
theorem ggX1_addTo_X1_slotOf : GoodIn wsX1_addTo wsX1_slotOf := goodIn_r _ [9, 2, 10, 11, 12, 8, 13, 1, 14, 15, 16, 17] (by decide +kernel) (by decide +kernel)
set_option maxRecDepth 20000 in
theorem gX1_addTo_X1_slotOf : GoodIn wsX1_addTo (wsV RX1 48 RX1 yX1_slotOf wsX1_slotOf) := goodIn_app (goodIn_of _ (by decide +kernel)) ggX1_addTo_X1_slotOf
theorem dX1_addTo_0 : decode cX1_addTo 0 = .ok (.aload_n 0, 1) := by decide +kernel
theorem dX1_addTo_1 : decode cX1_addTo 1 = .ok (.iload_n 1, 1) := by decide +kernel
theorem dX1_addTo_2 : decode cX1_addTo 2 = .ok (.invokevirtual 48, 3) := by decide +kernel
theorem dX1_addTo_5 : decode cX1_addTo 5 = .ok (.istore 4, 2) := by decide +kernel
theorem dX1_addTo_7 : decode cX1_addTo 7 = .ok (.iload 4, 2) := by decide +kernel
theorem dX1_addTo_9 : decode cX1_addTo 9 = .ok (.ifCond .lt 10, 3) := by decide +kernel
theorem dX1_addTo_12 : decode cX1_addTo 12 = .ok (.iload 4, 2) := by decide +kernel
theorem dX1_addTo_14 : decode cX1_addTo 14 = .ok (.bipush 8, 2) := by decide +kernel
theorem dX1_addTo_16 : decode cX1_addTo 16 = .ok (.if_icmp .lt 4, 3) := by decide +kernel
theorem dX1_addTo_19 : decode cX1_addTo 19 = .ok (.return_, 1) := by decide +kernel
theorem dX1_addTo_20 : decode cX1_addTo 20 = .ok (.iload 4, 2) := by decide +kernel
theorem dX1_addTo_22 : decode cX1_addTo 22 = .ok (.aload_n 0, 1) := by decide +kernel
theorem dX1_addTo_23 : decode cX1_addTo 23 = .ok (.getfield 21, 3) := by decide +kernel
theorem dX1_addTo_26 : decode cX1_addTo 26 = .ok (.if_icmp .ne 37, 3) := by decide +kernel
theorem dX1_addTo_29 : decode cX1_addTo 29 = .ok (.aload_n 0, 1) := by decide +kernel
theorem dX1_addTo_30 : decode cX1_addTo 30 = .ok (.getfield 9, 3) := by decide +kernel
theorem dX1_addTo_33 : decode cX1_addTo 33 = .ok (.iload 4, 2) := by decide +kernel
theorem dX1_addTo_35 : decode cX1_addTo 35 = .ok (.iload_n 1, 1) := by decide +kernel
theorem dX1_addTo_36 : decode cX1_addTo 36 = .ok (.iastore, 1) := by decide +kernel
theorem dX1_addTo_37 : decode cX1_addTo 37 = .ok (.aload_n 0, 1) := by decide +kernel
theorem dX1_addTo_38 : decode cX1_addTo 38 = .ok (.getfield 15, 3) := by decide +kernel
theorem dX1_addTo_41 : decode cX1_addTo 41 = .ok (.iload 4, 2) := by decide +kernel
theorem dX1_addTo_43 : decode cX1_addTo 43 = .ok (.iconst 0, 1) := by decide +kernel
theorem dX1_addTo_44 : decode cX1_addTo 44 = .ok (.iastore, 1) := by decide +kernel
theorem dX1_addTo_45 : decode cX1_addTo 45 = .ok (.aload_n 0, 1) := by decide +kernel
theorem dX1_addTo_46 : decode cX1_addTo 46 = .ok (.getfield 18, 3) := by decide +kernel
theorem dX1_addTo_49 : decode cX1_addTo 49 = .ok (.iload 4, 2) := by decide +kernel
theorem dX1_addTo_51 : decode cX1_addTo 51 = .ok (.iconst 0, 1) := by decide +kernel
theorem dX1_addTo_52 : decode cX1_addTo 52 = .ok (.iastore, 1) := by decide +kernel
theorem dX1_addTo_53 : decode cX1_addTo 53 = .ok (.aload_n 0, 1) := by decide +kernel
theorem dX1_addTo_54 : decode cX1_addTo 54 = .ok (.dup, 1) := by decide +kernel
theorem dX1_addTo_55 : decode cX1_addTo 55 = .ok (.getfield 21, 3) := by decide +kernel
theorem dX1_addTo_58 : decode cX1_addTo 58 = .ok (.iconst 1, 1) := by decide +kernel
theorem dX1_addTo_59 : decode cX1_addTo 59 = .ok (.iadd, 1) := by decide +kernel
theorem dX1_addTo_60 : decode cX1_addTo 60 = .ok (.putfield 21, 3) := by decide +kernel
theorem dX1_addTo_63 : decode cX1_addTo 63 = .ok (.aload_n 0, 1) := by decide +kernel
theorem dX1_addTo_64 : decode cX1_addTo 64 = .ok (.getfield 15, 3) := by decide +kernel
theorem dX1_addTo_67 : decode cX1_addTo 67 = .ok (.iload 4, 2) := by decide +kernel
theorem dX1_addTo_69 : decode cX1_addTo 69 = .ok (.dup2, 1) := by decide +kernel
theorem dX1_addTo_70 : decode cX1_addTo 70 = .ok (.iaload, 1) := by decide +kernel
theorem dX1_addTo_71 : decode cX1_addTo 71 = .ok (.iload_n 2, 1) := by decide +kernel
theorem dX1_addTo_72 : decode cX1_addTo 72 = .ok (.iadd, 1) := by decide +kernel
theorem dX1_addTo_73 : decode cX1_addTo 73 = .ok (.iastore, 1) := by decide +kernel
theorem dX1_addTo_74 : decode cX1_addTo 74 = .ok (.aload_n 0, 1) := by decide +kernel
theorem dX1_addTo_75 : decode cX1_addTo 75 = .ok (.getfield 18, 3) := by decide +kernel
theorem dX1_addTo_78 : decode cX1_addTo 78 = .ok (.iload 4, 2) := by decide +kernel
theorem dX1_addTo_80 : decode cX1_addTo 80 = .ok (.dup2, 1) := by decide +kernel
theorem dX1_addTo_81 : decode cX1_addTo 81 = .ok (.iaload, 1) := by decide +kernel
theorem dX1_addTo_82 : decode cX1_addTo 82 = .ok (.iload_n 3, 1) := by decide +kernel
theorem dX1_addTo_83 : decode cX1_addTo 83 = .ok (.ior, 1) := by decide +kernel
theorem dX1_addTo_84 : decode cX1_addTo 84 = .ok (.iastore, 1) := by decide +kernel
theorem dX1_addTo_85 : decode cX1_addTo 85 = .ok (.return_, 1) := by decide +kernel
set_option maxRecDepth 20000 in
theorem ggX1_slotOf_X1_hasSlot : GoodIn wsX1_slotOf wsX1_hasSlot := goodIn_r _ [6, 7, 8, 9, 10, 11] (by decide +kernel) (by decide +kernel)
set_option maxRecDepth 20000 in
theorem gX1_slotOf_X1_hasSlot : GoodIn wsX1_slotOf (wsV RX1 51 RX1 yX1_hasSlot wsX1_hasSlot) := goodIn_app (goodIn_of _ (by decide +kernel)) ggX1_slotOf_X1_hasSlot
theorem dX1_slotOf_0 : decode cX1_slotOf 0 = .ok (.iconst 0, 1) := by decide +kernel
theorem dX1_slotOf_1 : decode cX1_slotOf 1 = .ok (.istore_n 2, 1) := by decide +kernel
theorem dX1_slotOf_2 : decode cX1_slotOf 2 = .ok (.iload_n 2, 1) := by decide +kernel
theorem dX1_slotOf_3 : decode cX1_slotOf 3 = .ok (.bipush 8, 2) := by decide +kernel
theorem dX1_slotOf_5 : decode cX1_slotOf 5 = .ok (.if_icmp .ge 27, 3) := by decide +kernel
theorem dX1_slotOf_8 : decode cX1_slotOf 8 = .ok (.aload_n 0, 1) := by decide +kernel
theorem dX1_slotOf_9 : decode cX1_slotOf 9 = .ok (.iload_n 2, 1) := by decide +kernel
theorem dX1_slotOf_10 : decode cX1_slotOf 10 = .ok (.invokevirtual 51, 3) := by decide +kernel
theorem dX1_slotOf_13 : decode cX1_slotOf 13 = .ok (.ifCond .eq 19, 3) := by decide +kernel
theorem dX1_slotOf_16 : decode cX1_slotOf 16 = .ok (.aload_n 0, 1) := by decide +kernel
theorem dX1_slotOf_17 : decode cX1_slotOf 17 = .ok (.getfield 9, 3) := by decide +kernel
theorem dX1_slotOf_20 : decode cX1_slotOf 20 = .ok (.iload_n 2, 1) := by decide +kernel
theorem dX1_slotOf_21 : decode cX1_slotOf 21 = .ok (.iaload, 1) := by decide +kernel
theorem dX1_slotOf_22 : decode cX1_slotOf 22 = .ok (.iload_n 1, 1) := by decide +kernel
theorem dX1_slotOf_23 : decode cX1_slotOf 23 = .ok (.if_icmp .eq 9, 3) := by decide +kernel
theorem dX1_slotOf_26 : decode cX1_slotOf 26 = .ok (.iinc 2 1, 3) := by decide +kernel
theorem dX1_slotOf_29 : decode cX1_slotOf 29 = .ok (.goto (-27), 3) := by decide +kernel
theorem dX1_slotOf_32 : decode cX1_slotOf 32 = .ok (.iload_n 2, 1) := by decide +kernel
theorem dX1_slotOf_33 : decode cX1_slotOf 33 = .ok (.ireturn, 1) := by decide +kernel
theorem dX1_hasSlot_0 : decode cX1_hasSlot 0 = .ok (.iload_n 1, 1) := by decide +kernel
theorem dX1_hasSlot_1 : decode cX1_hasSlot 1 = .ok (.ifCond .lt 21, 3) := by decide +kernel
theorem dX1_hasSlot_4 : decode cX1_hasSlot 4 = .ok (.iload_n 1, 1) := by decide +kernel
theorem dX1_hasSlot_5 : decode cX1_hasSlot 5 = .ok (.aload_n 0, 1) := by decide +kernel
theorem dX1_hasSlot_6 : decode cX1_hasSlot 6 = .ok (.getfield 21, 3) := by decide +kernel
theorem dX1_hasSlot_9 : decode cX1_hasSlot 9 = .ok (.if_icmp .ge 13, 3) := by decide +kernel
theorem dX1_hasSlot_12 : decode cX1_hasSlot 12 = .ok (.iload_n 1, 1) := by decide +kernel
theorem dX1_hasSlot_13 : decode cX1_hasSlot 13 = .ok (.bipush 8, 2) := by decide +kernel
theorem dX1_hasSlot_15 : decode cX1_hasSlot 15 = .ok (.if_icmp .ge 7, 3) := by decide +kernel
theorem dX1_hasSlot_18 : decode cX1_hasSlot 18 = .ok (.iconst 1, 1) := by decide +kernel
theorem dX1_hasSlot_19 : decode cX1_hasSlot 19 = .ok (.goto 4, 3) := by decide +kernel
theorem dX1_hasSlot_22 : decode cX1_hasSlot 22 = .ok (.iconst 0, 1) := by decide +kernel
theorem dX1_hasSlot_23 : decode cX1_hasSlot 23 = .ok (.ireturn, 1) := by decide +kernel
set_option maxRecDepth 20000 in
theorem ggX1_lightOf_X1_slotOf : GoodIn wsX1_lightOf wsX1_slotOf := goodIn_r _ [6, 7, 8, 9, 10, 5, 11, 12, 13, 14, 15, 16] (by decide +kernel) (by decide +kernel)
set_option maxRecDepth 20000 in
theorem gX1_lightOf_X1_slotOf : GoodIn wsX1_lightOf (wsV RX1 48 RX1 yX1_slotOf wsX1_slotOf) := goodIn_app (goodIn_of _ (by decide +kernel)) ggX1_lightOf_X1_slotOf
set_option maxRecDepth 20000 in
theorem ggX1_lightOf_X1_hasSlot : GoodIn wsX1_lightOf wsX1_hasSlot := goodIn_r _ [11, 12, 13, 14, 15, 16] (by decide +kernel) (by decide +kernel)
set_option maxRecDepth 20000 in
theorem gX1_lightOf_X1_hasSlot : GoodIn wsX1_lightOf (wsV RX1 51 RX1 yX1_hasSlot wsX1_hasSlot) := goodIn_app (goodIn_of _ (by decide +kernel)) ggX1_lightOf_X1_hasSlot
theorem dX1_lightOf_0 : decode cX1_lightOf 0 = .ok (.aload_n 0, 1) := by decide +kernel
theorem dX1_lightOf_1 : decode cX1_lightOf 1 = .ok (.iload_n 1, 1) := by decide +kernel
theorem dX1_lightOf_2 : decode cX1_lightOf 2 = .ok (.invokevirtual 48, 3) := by decide +kernel
theorem dX1_lightOf_5 : decode cX1_lightOf 5 = .ok (.istore_n 2, 1) := by decide +kernel
theorem dX1_lightOf_6 : decode cX1_lightOf 6 = .ok (.aload_n 0, 1) := by decide +kernel
theorem dX1_lightOf_7 : decode cX1_lightOf 7 = .ok (.iload_n 2, 1) := by decide +kernel
theorem dX1_lightOf_8 : decode cX1_lightOf 8 = .ok (.invokevirtual 51, 3) := by decide +kernel
theorem dX1_lightOf_11 : decode cX1_lightOf 11 = .ok (.ifCond .eq 12, 3) := by decide +kernel
theorem dX1_lightOf_14 : decode cX1_lightOf 14 = .ok (.aload_n 0, 1) := by decide +kernel
theorem dX1_lightOf_15 : decode cX1_lightOf 15 = .ok (.getfield 15, 3) := by decide +kernel
theorem dX1_lightOf_18 : decode cX1_lightOf 18 = .ok (.iload_n 2, 1) := by decide +kernel
theorem dX1_lightOf_19 : decode cX1_lightOf 19 = .ok (.iaload, 1) := by decide +kernel
theorem dX1_lightOf_20 : decode cX1_lightOf 20 = .ok (.goto 4, 3) := by decide +kernel
theorem dX1_lightOf_23 : decode cX1_lightOf 23 = .ok (.iconst 0, 1) := by decide +kernel
theorem dX1_lightOf_24 : decode cX1_lightOf 24 = .ok (.ireturn, 1) := by decide +kernel
set_option maxRecDepth 20000 in
theorem ggX1_slotOfRank_X1_hasSlot : GoodIn wsX1_slotOfRank wsX1_hasSlot := goodIn_r _ [5, 6, 13, 14, 15, 16] (by decide +kernel) (by decide +kernel)
set_option maxRecDepth 20000 in
theorem gX1_slotOfRank_X1_hasSlot : GoodIn wsX1_slotOfRank (wsV RX1 51 RX1 yX1_hasSlot wsX1_hasSlot) := goodIn_app (goodIn_of _ (by decide +kernel)) ggX1_slotOfRank_X1_hasSlot
set_option maxRecDepth 20000 in
theorem ggX1_slotOfRank_X1_rankOf : GoodIn wsX1_slotOfRank wsX1_rankOf := goodIn_r _ [10, 11, 12, 1, 2, 3, 4, 5, 6, 13, 14, 15, 16] (by decide +kernel) (by decide +kernel)
set_option maxRecDepth 20000 in
theorem gX1_slotOfRank_X1_rankOf : GoodIn wsX1_slotOfRank (wsV RX1 54 RX1 yX1_rankOf wsX1_rankOf) := goodIn_app (goodIn_of _ (by decide +kernel)) ggX1_slotOfRank_X1_rankOf
theorem dX1_slotOfRank_0 : decode cX1_slotOfRank 0 = .ok (.iconst 0, 1) := by decide +kernel
theorem dX1_slotOfRank_1 : decode cX1_slotOfRank 1 = .ok (.istore_n 2, 1) := by decide +kernel
theorem dX1_slotOfRank_2 : decode cX1_slotOfRank 2 = .ok (.iload_n 2, 1) := by decide +kernel
theorem dX1_slotOfRank_3 : decode cX1_slotOfRank 3 = .ok (.bipush 8, 2) := by decide +kernel
theorem dX1_slotOfRank_5 : decode cX1_slotOfRank 5 = .ok (.if_icmp .ge 28, 3) := by decide +kernel
theorem dX1_slotOfRank_8 : decode cX1_slotOfRank 8 = .ok (.aload_n 0, 1) := by decide +kernel
theorem dX1_slotOfRank_9 : decode cX1_slotOfRank 9 = .ok (.iload_n 2, 1) := by decide +kernel
theorem dX1_slotOfRank_10 : decode cX1_slotOfRank 10 = .ok (.invokevirtual 51, 3) := by decide +kernel
theorem dX1_slotOfRank_13 : decode cX1_slotOfRank 13 = .ok (.ifCond .eq 20, 3) := by decide +kernel
theorem dX1_slotOfRank_16 : decode cX1_slotOfRank 16 = .ok (.aload_n 0, 1) := by decide +kernel
theorem dX1_slotOfRank_17 : decode cX1_slotOfRank 17 = .ok (.iload_n 2, 1) := by decide +kernel
theorem dX1_slotOfRank_18 : decode cX1_slotOfRank 18 = .ok (.invokevirtual 54, 3) := by decide +kernel
theorem dX1_slotOfRank_21 : decode cX1_slotOfRank 21 = .ok (.iload_n 1, 1) := by decide +kernel
theorem dX1_slotOfRank_22 : decode cX1_slotOfRank 22 = .ok (.if_icmp .ne 5, 3) := by decide +kernel
theorem dX1_slotOfRank_25 : decode cX1_slotOfRank 25 = .ok (.iload_n 2, 1) := by decide +kernel
theorem dX1_slotOfRank_26 : decode cX1_slotOfRank 26 = .ok (.ireturn, 1) := by decide +kernel
theorem dX1_slotOfRank_27 : decode cX1_slotOfRank 27 = .ok (.iinc 2 1, 3) := by decide +kernel
theorem dX1_slotOfRank_30 : decode cX1_slotOfRank 30 = .ok (.goto (-28), 3) := by decide +kernel
theorem dX1_slotOfRank_33 : decode cX1_slotOfRank 33 = .ok (.iconst (-1), 1) := by decide +kernel
theorem dX1_slotOfRank_34 : decode cX1_slotOfRank 34 = .ok (.ireturn, 1) := by decide +kernel
set_option maxRecDepth 20000 in
theorem ggX1_rankOf_X1_hasSlot : GoodIn wsX1_rankOf wsX1_hasSlot := goodIn_r _ [7, 8, 9, 10, 11, 12] (by decide +kernel) (by decide +kernel)
set_option maxRecDepth 20000 in
theorem gX1_rankOf_X1_hasSlot : GoodIn wsX1_rankOf (wsV RX1 51 RX1 yX1_hasSlot wsX1_hasSlot) := goodIn_app (goodIn_of _ (by decide +kernel)) ggX1_rankOf_X1_hasSlot
theorem dX1_rankOf_0 : decode cX1_rankOf 0 = .ok (.iconst 0, 1) := by decide +kernel
theorem dX1_rankOf_1 : decode cX1_rankOf 1 = .ok (.istore_n 2, 1) := by decide +kernel
theorem dX1_rankOf_2 : decode cX1_rankOf 2 = .ok (.iconst 0, 1) := by decide +kernel
theorem dX1_rankOf_3 : decode cX1_rankOf 3 = .ok (.istore_n 3, 1) := by decide +kernel
theorem dX1_rankOf_4 : decode cX1_rankOf 4 = .ok (.iload_n 3, 1) := by decide +kernel
theorem dX1_rankOf_5 : decode cX1_rankOf 5 = .ok (.bipush 8, 2) := by decide +kernel
theorem dX1_rankOf_7 : decode cX1_rankOf 7 = .ok (.if_icmp .ge 89, 3) := by decide +kernel
theorem dX1_rankOf_10 : decode cX1_rankOf 10 = .ok (.aload_n 0, 1) := by decide +kernel
theorem dX1_rankOf_11 : decode cX1_rankOf 11 = .ok (.iload_n 3, 1) := by decide +kernel
theorem dX1_rankOf_12 : decode cX1_rankOf 12 = .ok (.invokevirtual 51, 3) := by decide +kernel
theorem dX1_rankOf_15 : decode cX1_rankOf 15 = .ok (.ifCond .eq 81, 3) := by decide +kernel
theorem dX1_rankOf_18 : decode cX1_rankOf 18 = .ok (.aload_n 0, 1) := by decide +kernel
theorem dX1_rankOf_19 : decode cX1_rankOf 19 = .ok (.getfield 15, 3) := by decide +kernel
theorem dX1_rankOf_22 : decode cX1_rankOf 22 = .ok (.iload_n 3, 1) := by decide +kernel
theorem dX1_rankOf_23 : decode cX1_rankOf 23 = .ok (.iaload, 1) := by decide +kernel
theorem dX1_rankOf_24 : decode cX1_rankOf 24 = .ok (.aload_n 0, 1) := by decide +kernel
theorem dX1_rankOf_25 : decode cX1_rankOf 25 = .ok (.getfield 15, 3) := by decide +kernel
theorem dX1_rankOf_28 : decode cX1_rankOf 28 = .ok (.iload_n 1, 1) := by decide +kernel
theorem dX1_rankOf_29 : decode cX1_rankOf 29 = .ok (.iaload, 1) := by decide +kernel
theorem dX1_rankOf_30 : decode cX1_rankOf 30 = .ok (.if_icmp .le 7, 3) := by decide +kernel
theorem dX1_rankOf_33 : decode cX1_rankOf 33 = .ok (.iconst 1, 1) := by decide +kernel
theorem dX1_rankOf_34 : decode cX1_rankOf 34 = .ok (.goto 4, 3) := by decide +kernel
theorem dX1_rankOf_37 : decode cX1_rankOf 37 = .ok (.iconst 0, 1) := by decide +kernel
theorem dX1_rankOf_38 : decode cX1_rankOf 38 = .ok (.istore 4, 2) := by decide +kernel
theorem dX1_rankOf_40 : decode cX1_rankOf 40 = .ok (.aload_n 0, 1) := by decide +kernel
theorem dX1_rankOf_41 : decode cX1_rankOf 41 = .ok (.getfield 15, 3) := by decide +kernel
theorem dX1_rankOf_44 : decode cX1_rankOf 44 = .ok (.iload_n 3, 1) := by decide +kernel
theorem dX1_rankOf_45 : decode cX1_rankOf 45 = .ok (.iaload, 1) := by decide +kernel
theorem dX1_rankOf_46 : decode cX1_rankOf 46 = .ok (.aload_n 0, 1) := by decide +kernel
theorem dX1_rankOf_47 : decode cX1_rankOf 47 = .ok (.getfield 15, 3) := by decide +kernel
theorem dX1_rankOf_50 : decode cX1_rankOf 50 = .ok (.iload_n 1, 1) := by decide +kernel
theorem dX1_rankOf_51 : decode cX1_rankOf 51 = .ok (.iaload, 1) := by decide +kernel
theorem dX1_rankOf_52 : decode cX1_rankOf 52 = .ok (.if_icmp .ne 22, 3) := by decide +kernel
theorem dX1_rankOf_55 : decode cX1_rankOf 55 = .ok (.aload_n 0, 1) := by decide +kernel
theorem dX1_rankOf_56 : decode cX1_rankOf 56 = .ok (.getfield 9, 3) := by decide +kernel
theorem dX1_rankOf_59 : decode cX1_rankOf 59 = .ok (.iload_n 3, 1) := by decide +kernel
theorem dX1_rankOf_60 : decode cX1_rankOf 60 = .ok (.iaload, 1) := by decide +kernel
theorem dX1_rankOf_61 : decode cX1_rankOf 61 = .ok (.aload_n 0, 1) := by decide +kernel
theorem dX1_rankOf_62 : decode cX1_rankOf 62 = .ok (.getfield 9, 3) := by decide +kernel
theorem dX1_rankOf_65 : decode cX1_rankOf 65 = .ok (.iload_n 1, 1) := by decide +kernel
theorem dX1_rankOf_66 : decode cX1_rankOf 66 = .ok (.iaload, 1) := by decide +kernel
theorem dX1_rankOf_67 : decode cX1_rankOf 67 = .ok (.if_icmp .ge 7, 3) := by decide +kernel
theorem dX1_rankOf_70 : decode cX1_rankOf 70 = .ok (.iconst 1, 1) := by decide +kernel
theorem dX1_rankOf_71 : decode cX1_rankOf 71 = .ok (.goto 4, 3) := by decide +kernel
theorem dX1_rankOf_74 : decode cX1_rankOf 74 = .ok (.iconst 0, 1) := by decide +kernel
theorem dX1_rankOf_75 : decode cX1_rankOf 75 = .ok (.istore 5, 2) := by decide +kernel
theorem dX1_rankOf_77 : decode cX1_rankOf 77 = .ok (.iload 4, 2) := by decide +kernel
theorem dX1_rankOf_79 : decode cX1_rankOf 79 = .ok (.ifCond .ne 8, 3) := by decide +kernel
theorem dX1_rankOf_82 : decode cX1_rankOf 82 = .ok (.iload 5, 2) := by decide +kernel
theorem dX1_rankOf_84 : decode cX1_rankOf 84 = .ok (.ifCond .eq 6, 3) := by decide +kernel
theorem dX1_rankOf_87 : decode cX1_rankOf 87 = .ok (.iinc 2 1, 3) := by decide +kernel
theorem dX1_rankOf_90 : decode cX1_rankOf 90 = .ok (.iinc 3 1, 3) := by decide +kernel
theorem dX1_rankOf_93 : decode cX1_rankOf 93 = .ok (.goto (-89), 3) := by decide +kernel
theorem dX1_rankOf_96 : decode cX1_rankOf 96 = .ok (.iload_n 2, 1) := by decide +kernel
theorem dX1_rankOf_97 : decode cX1_rankOf 97 = .ok (.ireturn, 1) := by decide +kernel
theorem dX2_init_0 : decode cX2_init 0 = .ok (.aload_n 0, 1) := by decide +kernel
theorem dX2_init_1 : decode cX2_init 1 = .ok (.invokespecial 1, 3) := by decide +kernel
theorem dX2_init_4 : decode cX2_init 4 = .ok (.aload_n 0, 1) := by decide +kernel
theorem dX2_init_5 : decode cX2_init 5 = .ok (.iconst 0, 1) := by decide +kernel
theorem dX2_init_6 : decode cX2_init 6 = .ok (.putfield 7, 3) := by decide +kernel
theorem dX2_init_9 : decode cX2_init 9 = .ok (.aload_n 0, 1) := by decide +kernel
theorem dX2_init_10 : decode cX2_init 10 = .ok (.iconst (-1), 1) := by decide +kernel
theorem dX2_init_11 : decode cX2_init 11 = .ok (.putfield 13, 3) := by decide +kernel
theorem dX2_init_14 : decode cX2_init 14 = .ok (.aload_n 0, 1) := by decide +kernel
theorem dX2_init_15 : decode cX2_init 15 = .ok (.iconst 0, 1) := by decide +kernel
theorem dX2_init_16 : decode cX2_init 16 = .ok (.putfield 16, 3) := by decide +kernel
theorem dX2_init_19 : decode cX2_init 19 = .ok (.return_, 1) := by decide +kernel
theorem dX2_clear_0 : decode cX2_clear 0 = .ok (.aload_n 0, 1) := by decide +kernel
theorem dX2_clear_1 : decode cX2_clear 1 = .ok (.iconst (-1), 1) := by decide +kernel
theorem dX2_clear_2 : decode cX2_clear 2 = .ok (.putfield 13, 3) := by decide +kernel
theorem dX2_clear_5 : decode cX2_clear 5 = .ok (.return_, 1) := by decide +kernel
theorem dX2_offer_0 : decode cX2_offer 0 = .ok (.iload_n 2, 1) := by decide +kernel
theorem dX2_offer_1 : decode cX2_offer 1 = .ok (.aload_n 0, 1) := by decide +kernel
theorem dX2_offer_2 : decode cX2_offer 2 = .ok (.getfield 13, 3) := by decide +kernel
theorem dX2_offer_5 : decode cX2_offer 5 = .ok (.if_icmp .gt 19, 3) := by decide +kernel
theorem dX2_offer_8 : decode cX2_offer 8 = .ok (.iload_n 2, 1) := by decide +kernel
theorem dX2_offer_9 : decode cX2_offer 9 = .ok (.aload_n 0, 1) := by decide +kernel
theorem dX2_offer_10 : decode cX2_offer 10 = .ok (.getfield 13, 3) := by decide +kernel
theorem dX2_offer_13 : decode cX2_offer 13 = .ok (.if_icmp .ne 26, 3) := by decide +kernel
theorem dX2_offer_16 : decode cX2_offer 16 = .ok (.iload_n 3, 1) := by decide +kernel
theorem dX2_offer_17 : decode cX2_offer 17 = .ok (.aload_n 0, 1) := by decide +kernel
theorem dX2_offer_18 : decode cX2_offer 18 = .ok (.getfield 16, 3) := by decide +kernel
theorem dX2_offer_21 : decode cX2_offer 21 = .ok (.if_icmp .ge 18, 3) := by decide +kernel
theorem dX2_offer_24 : decode cX2_offer 24 = .ok (.aload_n 0, 1) := by decide +kernel
theorem dX2_offer_25 : decode cX2_offer 25 = .ok (.iload_n 1, 1) := by decide +kernel
theorem dX2_offer_26 : decode cX2_offer 26 = .ok (.putfield 7, 3) := by decide +kernel
theorem dX2_offer_29 : decode cX2_offer 29 = .ok (.aload_n 0, 1) := by decide +kernel
theorem dX2_offer_30 : decode cX2_offer 30 = .ok (.iload_n 2, 1) := by decide +kernel
theorem dX2_offer_31 : decode cX2_offer 31 = .ok (.putfield 13, 3) := by decide +kernel
theorem dX2_offer_34 : decode cX2_offer 34 = .ok (.aload_n 0, 1) := by decide +kernel
theorem dX2_offer_35 : decode cX2_offer 35 = .ok (.iload_n 3, 1) := by decide +kernel
theorem dX2_offer_36 : decode cX2_offer 36 = .ok (.putfield 16, 3) := by decide +kernel
theorem dX2_offer_39 : decode cX2_offer 39 = .ok (.return_, 1) := by decide +kernel
theorem dX3_init_0 : decode cX3_init 0 = .ok (.aload_n 0, 1) := by decide +kernel
theorem dX3_init_1 : decode cX3_init 1 = .ok (.invokespecial 3, 3) := by decide +kernel
theorem dX3_init_4 : decode cX3_init 4 = .ok (.aload_n 0, 1) := by decide +kernel
theorem dX3_init_5 : decode cX3_init 5 = .ok (.iconst 4, 1) := by decide +kernel
theorem dX3_init_6 : decode cX3_init 6 = .ok (.anewarray 9, 3) := by decide +kernel
theorem dX3_init_9 : decode cX3_init 9 = .ok (.putfield 11, 3) := by decide +kernel
theorem dX3_init_12 : decode cX3_init 12 = .ok (.aload_n 0, 1) := by decide +kernel
theorem dX3_init_13 : decode cX3_init 13 = .ok (.iconst 0, 1) := by decide +kernel
theorem dX3_init_14 : decode cX3_init 14 = .ok (.putfield 17, 3) := by decide +kernel
theorem dX3_init_17 : decode cX3_init 17 = .ok (.return_, 1) := by decide +kernel
set_option maxRecDepth 20000 in
theorem ggX3_record_X3_dropOldest : GoodIn wsX3_record wsX3_dropOldest := goodIn_r _ [10, 2, 1, 35, 36] (by decide +kernel) (by decide +kernel)
set_option maxRecDepth 20000 in
theorem gX3_record_X3_dropOldest : GoodIn wsX3_record (wsV RX3 21 RX3 yX3_dropOldest wsX3_dropOldest) := goodIn_app (goodIn_of _ (by decide +kernel)) ggX3_record_X3_dropOldest
set_option maxRecDepth 20000 in
theorem ggX3_record_X0_init : GoodIn wsX3_record wsX0_init := goodIn_r _ [12, 13, 14, 15, 16, 17, 18, 19, 20, 21, 22, 23, 24, 25, 26, 37, 38, 39, 40, 41, 42, 43, 44, 45, 46] (by decide +kernel) (by decide +kernel)
set_option maxRecDepth 20000 in
theorem gX3_record_X0_init_n24 : GoodIn wsX3_record (wsX0_init) := ggX3_record_X0_init
set_option maxRecDepth 20000 in
theorem ggX3_record_X0_copyFrom : GoodIn wsX3_record wsX0_copyFrom := goodIn_r _ [30, 17, 31, 32, 33, 34, 18, 19, 20, 21, 22, 23, 24, 25, 26, 37, 38, 39, 40, 41, 42, 43, 44, 45, 46] (by decide +kernel) (by decide +kernel)
set_option maxRecDepth 20000 in
theorem gX3_record_X0_copyFrom : GoodIn wsX3_record (wsV RX3 25 RX0 yX0_copyFrom wsX0_copyFrom) := goodIn_app (goodIn_of _ (by decide +kernel)) ggX3_record_X0_copyFrom
theorem dX3_record_0 : decode cX3_record 0 = .ok (.aload_n 0, 1) := by decide +kernel
theorem dX3_record_1 : decode cX3_record 1 = .ok (.getfield 17, 3) := by decide +kernel
theorem dX3_record_4 : decode cX3_record 4 = .ok (.iconst 4, 1) := by decide +kernel
theorem dX3_record_5 : decode cX3_record 5 = .ok (.if_icmp .lt 7, 3) := by decide +kernel
theorem dX3_record_8 : decode cX3_record 8 = .ok (.aload_n 0, 1) := by decide +kernel
theorem dX3_record_9 : decode cX3_record 9 = .ok (.invokevirtual 21, 3) := by decide +kernel
theorem dX3_record_12 : decode cX3_record 12 = .ok (.aload_n 0, 1) := by decide +kernel
theorem dX3_record_13 : decode cX3_record 13 = .ok (.getfield 17, 3) := by decide +kernel
theorem dX3_record_16 : decode cX3_record 16 = .ok (.ifCond .lt 11, 3) := by decide +kernel
theorem dX3_record_19 : decode cX3_record 19 = .ok (.aload_n 0, 1) := by decide +kernel
theorem dX3_record_20 : decode cX3_record 20 = .ok (.getfield 17, 3) := by decide +kernel
theorem dX3_record_23 : decode cX3_record 23 = .ok (.iconst 4, 1) := by decide +kernel
theorem dX3_record_24 : decode cX3_record 24 = .ok (.if_icmp .lt 4, 3) := by decide +kernel
theorem dX3_record_27 : decode cX3_record 27 = .ok (.return_, 1) := by decide +kernel
theorem dX3_record_28 : decode cX3_record 28 = .ok (.aload_n 0, 1) := by decide +kernel
theorem dX3_record_29 : decode cX3_record 29 = .ok (.getfield 11, 3) := by decide +kernel
theorem dX3_record_32 : decode cX3_record 32 = .ok (.aload_n 0, 1) := by decide +kernel
theorem dX3_record_33 : decode cX3_record 33 = .ok (.getfield 17, 3) := by decide +kernel
theorem dX3_record_36 : decode cX3_record 36 = .ok (.aaload, 1) := by decide +kernel
theorem dX3_record_37 : decode cX3_record 37 = .ok (.astore_n 2, 1) := by decide +kernel
theorem dX3_record_38 : decode cX3_record 38 = .ok (.aload_n 2, 1) := by decide +kernel
theorem dX3_record_39 : decode cX3_record 39 = .ok (.ifnonnull 21, 3) := by decide +kernel
theorem dX3_record_42 : decode cX3_record 42 = .ok (.new 9, 3) := by decide +kernel
theorem dX3_record_45 : decode cX3_record 45 = .ok (.dup, 1) := by decide +kernel
theorem dX3_record_46 : decode cX3_record 46 = .ok (.invokespecial 24, 3) := by decide +kernel
theorem dX3_record_49 : decode cX3_record 49 = .ok (.astore_n 2, 1) := by decide +kernel
theorem dX3_record_50 : decode cX3_record 50 = .ok (.aload_n 0, 1) := by decide +kernel
theorem dX3_record_51 : decode cX3_record 51 = .ok (.getfield 11, 3) := by decide +kernel
theorem dX3_record_54 : decode cX3_record 54 = .ok (.aload_n 0, 1) := by decide +kernel
theorem dX3_record_55 : decode cX3_record 55 = .ok (.getfield 17, 3) := by decide +kernel
theorem dX3_record_58 : decode cX3_record 58 = .ok (.aload_n 2, 1) := by decide +kernel
theorem dX3_record_59 : decode cX3_record 59 = .ok (.aastore, 1) := by decide +kernel
theorem dX3_record_60 : decode cX3_record 60 = .ok (.aload_n 2, 1) := by decide +kernel
theorem dX3_record_61 : decode cX3_record 61 = .ok (.aload_n 1, 1) := by decide +kernel
theorem dX3_record_62 : decode cX3_record 62 = .ok (.invokevirtual 25, 3) := by decide +kernel
theorem dX3_record_65 : decode cX3_record 65 = .ok (.aload_n 0, 1) := by decide +kernel
theorem dX3_record_66 : decode cX3_record 66 = .ok (.dup, 1) := by decide +kernel
theorem dX3_record_67 : decode cX3_record 67 = .ok (.getfield 17, 3) := by decide +kernel
theorem dX3_record_70 : decode cX3_record 70 = .ok (.iconst 1, 1) := by decide +kernel
theorem dX3_record_71 : decode cX3_record 71 = .ok (.iadd, 1) := by decide +kernel
theorem dX3_record_72 : decode cX3_record 72 = .ok (.putfield 17, 3) := by decide +kernel
theorem dX3_record_75 : decode cX3_record 75 = .ok (.return_, 1) := by decide +kernel
theorem dX3_dropOldest_0 : decode cX3_dropOldest 0 = .ok (.aload_n 0, 1) := by decide +kernel
theorem dX3_dropOldest_1 : decode cX3_dropOldest 1 = .ok (.getfield 11, 3) := by decide +kernel
theorem dX3_dropOldest_4 : decode cX3_dropOldest 4 = .ok (.iconst 0, 1) := by decide +kernel
theorem dX3_dropOldest_5 : decode cX3_dropOldest 5 = .ok (.aaload, 1) := by decide +kernel
theorem dX3_dropOldest_6 : decode cX3_dropOldest 6 = .ok (.astore_n 1, 1) := by decide +kernel
theorem dX3_dropOldest_7 : decode cX3_dropOldest 7 = .ok (.iconst 1, 1) := by decide +kernel
theorem dX3_dropOldest_8 : decode cX3_dropOldest 8 = .ok (.istore_n 2, 1) := by decide +kernel
theorem dX3_dropOldest_9 : decode cX3_dropOldest 9 = .ok (.iload_n 2, 1) := by decide +kernel
theorem dX3_dropOldest_10 : decode cX3_dropOldest 10 = .ok (.iconst 4, 1) := by decide +kernel
theorem dX3_dropOldest_11 : decode cX3_dropOldest 11 = .ok (.if_icmp .ge 23, 3) := by decide +kernel
theorem dX3_dropOldest_14 : decode cX3_dropOldest 14 = .ok (.aload_n 0, 1) := by decide +kernel
theorem dX3_dropOldest_15 : decode cX3_dropOldest 15 = .ok (.getfield 11, 3) := by decide +kernel
theorem dX3_dropOldest_18 : decode cX3_dropOldest 18 = .ok (.iload_n 2, 1) := by decide +kernel
theorem dX3_dropOldest_19 : decode cX3_dropOldest 19 = .ok (.iconst 1, 1) := by decide +kernel
theorem dX3_dropOldest_20 : decode cX3_dropOldest 20 = .ok (.isub, 1) := by decide +kernel
theorem dX3_dropOldest_21 : decode cX3_dropOldest 21 = .ok (.aload_n 0, 1) := by decide +kernel
theorem dX3_dropOldest_22 : decode cX3_dropOldest 22 = .ok (.getfield 11, 3) := by decide +kernel
theorem dX3_dropOldest_25 : decode cX3_dropOldest 25 = .ok (.iload_n 2, 1) := by decide +kernel
theorem dX3_dropOldest_26 : decode cX3_dropOldest 26 = .ok (.aaload, 1) := by decide +kernel
theorem dX3_dropOldest_27 : decode cX3_dropOldest 27 = .ok (.aastore, 1) := by decide +kernel
theorem dX3_dropOldest_28 : decode cX3_dropOldest 28 = .ok (.iinc 2 1, 3) := by decide +kernel
theorem dX3_dropOldest_31 : decode cX3_dropOldest 31 = .ok (.goto (-22), 3) := by decide +kernel
theorem dX3_dropOldest_34 : decode cX3_dropOldest 34 = .ok (.aload_n 0, 1) := by decide +kernel
theorem dX3_dropOldest_35 : decode cX3_dropOldest 35 = .ok (.getfield 11, 3) := by decide +kernel
theorem dX3_dropOldest_38 : decode cX3_dropOldest 38 = .ok (.iconst 3, 1) := by decide +kernel
theorem dX3_dropOldest_39 : decode cX3_dropOldest 39 = .ok (.aload_n 1, 1) := by decide +kernel
theorem dX3_dropOldest_40 : decode cX3_dropOldest 40 = .ok (.aastore, 1) := by decide +kernel
theorem dX3_dropOldest_41 : decode cX3_dropOldest 41 = .ok (.aload_n 0, 1) := by decide +kernel
theorem dX3_dropOldest_42 : decode cX3_dropOldest 42 = .ok (.iconst 3, 1) := by decide +kernel
theorem dX3_dropOldest_43 : decode cX3_dropOldest 43 = .ok (.putfield 17, 3) := by decide +kernel
theorem dX3_dropOldest_46 : decode cX3_dropOldest 46 = .ok (.return_, 1) := by decide +kernel
set_option maxRecDepth 20000 in
theorem ggX3_takeLatest_X0_copyFrom : GoodIn wsX3_takeLatest wsX0_copyFrom := goodIn_r _ [7, 8, 9, 10, 11, 12, 13, 14, 15, 16, 17, 18, 19, 20, 21, 24, 25, 26, 27, 28, 29, 30, 31, 32, 33] (by decide +kernel) (by decide +kernel)
set_option maxRecDepth 20000 in
theorem gX3_takeLatest_X0_copyFrom : GoodIn wsX3_takeLatest (wsV RX3 25 RX0 yX0_copyFrom wsX0_copyFrom) := goodIn_app (goodIn_of _ (by decide +kernel)) ggX3_takeLatest_X0_copyFrom
theorem dX3_takeLatest_0 : decode cX3_takeLatest 0 = .ok (.aload_n 0, 1) := by decide +kernel
theorem dX3_takeLatest_1 : decode cX3_takeLatest 1 = .ok (.getfield 17, 3) := by decide +kernel
theorem dX3_takeLatest_4 : decode cX3_takeLatest 4 = .ok (.iconst 1, 1) := by decide +kernel
theorem dX3_takeLatest_5 : decode cX3_takeLatest 5 = .ok (.isub, 1) := by decide +kernel
theorem dX3_takeLatest_6 : decode cX3_takeLatest 6 = .ok (.istore_n 2, 1) := by decide +kernel
theorem dX3_takeLatest_7 : decode cX3_takeLatest 7 = .ok (.iload_n 2, 1) := by decide +kernel
theorem dX3_takeLatest_8 : decode cX3_takeLatest 8 = .ok (.ifCond .lt 8, 3) := by decide +kernel
theorem dX3_takeLatest_11 : decode cX3_takeLatest 11 = .ok (.iload_n 2, 1) := by decide +kernel
theorem dX3_takeLatest_12 : decode cX3_takeLatest 12 = .ok (.iconst 4, 1) := by decide +kernel
theorem dX3_takeLatest_13 : decode cX3_takeLatest 13 = .ok (.if_icmp .lt 5, 3) := by decide +kernel
theorem dX3_takeLatest_16 : decode cX3_takeLatest 16 = .ok (.iconst 0, 1) := by decide +kernel
theorem dX3_takeLatest_17 : decode cX3_takeLatest 17 = .ok (.ireturn, 1) := by decide +kernel
theorem dX3_takeLatest_18 : decode cX3_takeLatest 18 = .ok (.aload_n 0, 1) := by decide +kernel
theorem dX3_takeLatest_19 : decode cX3_takeLatest 19 = .ok (.getfield 11, 3) := by decide +kernel
theorem dX3_takeLatest_22 : decode cX3_takeLatest 22 = .ok (.iload_n 2, 1) := by decide +kernel
theorem dX3_takeLatest_23 : decode cX3_takeLatest 23 = .ok (.aaload, 1) := by decide +kernel
theorem dX3_takeLatest_24 : decode cX3_takeLatest 24 = .ok (.astore_n 3, 1) := by decide +kernel
theorem dX3_takeLatest_25 : decode cX3_takeLatest 25 = .ok (.aload_n 3, 1) := by decide +kernel
theorem dX3_takeLatest_26 : decode cX3_takeLatest 26 = .ok (.ifnonnull 5, 3) := by decide +kernel
theorem dX3_takeLatest_29 : decode cX3_takeLatest 29 = .ok (.iconst 0, 1) := by decide +kernel
theorem dX3_takeLatest_30 : decode cX3_takeLatest 30 = .ok (.ireturn, 1) := by decide +kernel
theorem dX3_takeLatest_31 : decode cX3_takeLatest 31 = .ok (.aload_n 1, 1) := by decide +kernel
theorem dX3_takeLatest_32 : decode cX3_takeLatest 32 = .ok (.aload_n 3, 1) := by decide +kernel
theorem dX3_takeLatest_33 : decode cX3_takeLatest 33 = .ok (.invokevirtual 25, 3) := by decide +kernel
theorem dX3_takeLatest_36 : decode cX3_takeLatest 36 = .ok (.aload_n 0, 1) := by decide +kernel
theorem dX3_takeLatest_37 : decode cX3_takeLatest 37 = .ok (.iload_n 2, 1) := by decide +kernel
theorem dX3_takeLatest_38 : decode cX3_takeLatest 38 = .ok (.putfield 17, 3) := by decide +kernel
theorem dX3_takeLatest_41 : decode cX3_takeLatest 41 = .ok (.iconst 1, 1) := by decide +kernel
theorem dX3_takeLatest_42 : decode cX3_takeLatest 42 = .ok (.ireturn, 1) := by decide +kernel
theorem dX4_init_0 : decode cX4_init 0 = .ok (.aload_n 0, 1) := by decide +kernel
theorem dX4_init_1 : decode cX4_init 1 = .ok (.invokespecial 3, 3) := by decide +kernel
theorem dX4_init_4 : decode cX4_init 4 = .ok (.aload_n 0, 1) := by decide +kernel
theorem dX4_init_5 : decode cX4_init 5 = .ok (.bipush 8, 2) := by decide +kernel
theorem dX4_init_7 : decode cX4_init 7 = .ok (.newarray .int, 2) := by decide +kernel
theorem dX4_init_9 : decode cX4_init 9 = .ok (.putfield 9, 3) := by decide +kernel
theorem dX4_init_12 : decode cX4_init 12 = .ok (.aload_n 0, 1) := by decide +kernel
theorem dX4_init_13 : decode cX4_init 13 = .ok (.bipush 8, 2) := by decide +kernel
theorem dX4_init_15 : decode cX4_init 15 = .ok (.newarray .int, 2) := by decide +kernel
theorem dX4_init_17 : decode cX4_init 17 = .ok (.putfield 15, 3) := by decide +kernel
theorem dX4_init_20 : decode cX4_init 20 = .ok (.aload_n 0, 1) := by decide +kernel
theorem dX4_init_21 : decode cX4_init 21 = .ok (.bipush 8, 2) := by decide +kernel
theorem dX4_init_23 : decode cX4_init 23 = .ok (.newarray .int, 2) := by decide +kernel
theorem dX4_init_25 : decode cX4_init 25 = .ok (.putfield 18, 3) := by decide +kernel
theorem dX4_init_28 : decode cX4_init 28 = .ok (.aload_n 0, 1) := by decide +kernel
theorem dX4_init_29 : decode cX4_init 29 = .ok (.bipush 8, 2) := by decide +kernel
theorem dX4_init_31 : decode cX4_init 31 = .ok (.newarray .int, 2) := by decide +kernel
theorem dX4_init_33 : decode cX4_init 33 = .ok (.putfield 21, 3) := by decide +kernel
theorem dX4_init_36 : decode cX4_init 36 = .ok (.aload_n 0, 1) := by decide +kernel
theorem dX4_init_37 : decode cX4_init 37 = .ok (.iconst 0, 1) := by decide +kernel
theorem dX4_init_38 : decode cX4_init 38 = .ok (.putfield 24, 3) := by decide +kernel
theorem dX4_init_41 : decode cX4_init 41 = .ok (.return_, 1) := by decide +kernel
set_option maxRecDepth 20000 in
theorem ggX4_follow_X0_hasLine : GoodIn wsX4_follow wsX0_hasLine := goodIn_r _ [7, 8, 60, 61, 62, 63, 64, 65, 66, 67, 68, 69] (by decide +kernel) (by decide +kernel)
set_option maxRecDepth 20000 in
theorem gX4_follow_X0_hasLine : GoodIn wsX4_follow (wsV RX4 28 RX0 yX0_hasLine wsX0_hasLine) := goodIn_app (goodIn_of _ (by decide +kernel)) ggX4_follow_X0_hasLine
set_option maxRecDepth 20000 in
theorem ggX4_follow_X4_followLine : GoodIn wsX4_follow wsX4_followLine := goodIn_r _ [13, 14, 15, 16, 17, 3, 4, 5, 6, 7, 8, 18, 19, 20, 21, 22, 23, 24, 12, 25, 26, 27, 28, 29, 30, 31, 32, 33, 34, 35, 36, 37, 38, 39, 40, 41, 42, 43, 44, 45, 46, 47, 48, 49, 50, 51, 52, 53, 54, 55, 56, 57, 58, 59, 60, 61, 62, 63, 64, 65, 66, 67, 68, 69, 70, 71, 72, 73, 74] (by decide +kernel) (by decide +kernel)
set_option maxRecDepth 20000 in
theorem gX4_follow_X4_followLine : GoodIn wsX4_follow (wsV RX4 34 RX4 yX4_followLine wsX4_followLine) := goodIn_app (goodIn_of _ (by decide +kernel)) ggX4_follow_X4_followLine
theorem dX4_follow_0 : decode cX4_follow 0 = .ok (.iconst 0, 1) := by decide +kernel
theorem dX4_follow_1 : decode cX4_follow 1 = .ok (.istore_n 2, 1) := by decide +kernel
theorem dX4_follow_2 : decode cX4_follow 2 = .ok (.iload_n 2, 1) := by decide +kernel
theorem dX4_follow_3 : decode cX4_follow 3 = .ok (.bipush 8, 2) := by decide +kernel
theorem dX4_follow_5 : decode cX4_follow 5 = .ok (.if_icmp .ge 26, 3) := by decide +kernel
theorem dX4_follow_8 : decode cX4_follow 8 = .ok (.aload_n 1, 1) := by decide +kernel
theorem dX4_follow_9 : decode cX4_follow 9 = .ok (.iload_n 2, 1) := by decide +kernel
theorem dX4_follow_10 : decode cX4_follow 10 = .ok (.invokevirtual 28, 3) := by decide +kernel
theorem dX4_follow_13 : decode cX4_follow 13 = .ok (.ifCond .eq 18, 3) := by decide +kernel
theorem dX4_follow_16 : decode cX4_follow 16 = .ok (.aload_n 0, 1) := by decide +kernel
theorem dX4_follow_17 : decode cX4_follow 17 = .ok (.aload_n 1, 1) := by decide +kernel
theorem dX4_follow_18 : decode cX4_follow 18 = .ok (.iload_n 2, 1) := by decide +kernel
theorem dX4_follow_19 : decode cX4_follow 19 = .ok (.sipush 1000, 3) := by decide +kernel
theorem dX4_follow_22 : decode cX4_follow 22 = .ok (.invokevirtual 34, 3) := by decide +kernel
theorem dX4_follow_25 : decode cX4_follow 25 = .ok (.iinc 2 1, 3) := by decide +kernel
theorem dX4_follow_28 : decode cX4_follow 28 = .ok (.goto (-26), 3) := by decide +kernel
theorem dX4_follow_31 : decode cX4_follow 31 = .ok (.aload_n 0, 1) := by decide +kernel
theorem dX4_follow_32 : decode cX4_follow 32 = .ok (.aload_n 1, 1) := by decide +kernel
theorem dX4_follow_33 : decode cX4_follow 33 = .ok (.getfield 38, 3) := by decide +kernel
theorem dX4_follow_36 : decode cX4_follow 36 = .ok (.putfield 24, 3) := by decide +kernel
theorem dX4_follow_39 : decode cX4_follow 39 = .ok (.return_, 1) := by decide +kernel
set_option maxRecDepth 20000 in
theorem ggX4_followLine_X0_hasLine : GoodIn wsX4_followLine wsX0_hasLine := goodIn_r _ [9, 10, 54, 55, 56, 57, 58, 59, 60, 61, 62, 63] (by decide +kernel) (by decide +kernel)
set_option maxRecDepth 20000 in
theorem gX4_followLine_X0_hasLine : GoodIn wsX4_followLine (wsV RX4 28 RX0 yX0_hasLine wsX0_hasLine) := goodIn_app (goodIn_of _ (by decide +kernel)) ggX4_followLine_X0_hasLine
set_option maxRecDepth 20000 in
theorem ggX4_followLine_X0_hasThing : GoodIn wsX4_followLine wsX0_hasThing := goodIn_r _ [14, 15, 54, 55, 56, 57, 58, 59, 60, 61, 62, 63] (by decide +kernel) (by decide +kernel)
set_option maxRecDepth 20000 in
theorem gX4_followLine_X0_hasThing : GoodIn wsX4_followLine (wsV RX4 44 RX0 yX0_hasThing wsX0_hasThing) := goodIn_app (goodIn_of _ (by decide +kernel)) ggX4_followLine_X0_hasThing
set_option maxRecDepth 20000 in
theorem ggX4_followLine_X4_rise : GoodIn wsX4_followLine wsX4_rise := goodIn_r _ [19, 20, 21, 22, 23] (by decide +kernel) (by decide +kernel)
set_option maxRecDepth 20000 in
theorem gX4_followLine_X4_rise : GoodIn wsX4_followLine (va_wsS RX4 50 yX4_rise wsX4_rise) := goodIn_app (goodIn_of _ (by decide +kernel)) ggX4_followLine_X4_rise
set_option maxRecDepth 20000 in
theorem ggX4_followLine_X0_whyLostAt : GoodIn wsX4_followLine wsX0_whyLostAt := goodIn_r _ [27, 28, 29, 30, 31, 32, 8, 33, 34, 35, 36, 37, 12, 13, 14, 15, 54, 55, 56, 57, 58, 59, 60, 61, 62, 63] (by decide +kernel) (by decide +kernel)
set_option maxRecDepth 20000 in
theorem gX4_followLine_X0_whyLostAt : GoodIn wsX4_followLine (wsV RX4 54 RX0 yX0_whyLostAt wsX0_whyLostAt) := goodIn_app (goodIn_of _ (by decide +kernel)) ggX4_followLine_X0_whyLostAt
set_option maxRecDepth 20000 in
theorem ggX4_followLine_X4_finish : GoodIn wsX4_followLine wsX4_finish := goodIn_r _ [41, 42, 43, 64, 65, 66, 67, 68] (by decide +kernel) (by decide +kernel)
set_option maxRecDepth 20000 in
theorem gX4_followLine_X4_finish : GoodIn wsX4_followLine (wsV RX4 57 RX4 yX4_finish wsX4_finish) := goodIn_app (goodIn_of _ (by decide +kernel)) ggX4_followLine_X4_finish
set_option maxRecDepth 20000 in
theorem ggX4_followLine_X0_bendAt : GoodIn wsX4_followLine wsX0_bendAt := goodIn_r _ [47, 28, 30, 29, 48, 37, 12, 13, 8, 14, 15, 49, 35, 50, 51, 21, 22, 23, 52, 54, 55, 56, 57, 58, 59, 60, 61, 62, 63] (by decide +kernel) (by decide +kernel)
set_option maxRecDepth 20000 in
theorem gX4_followLine_X0_bendAt : GoodIn wsX4_followLine (wsV RX4 61 RX0 yX0_bendAt wsX0_bendAt) := goodIn_app (goodIn_of _ (by decide +kernel)) ggX4_followLine_X0_bendAt
set_option maxRecDepth 20000 in
theorem ggX4_followLine_X0_isBeyond : GoodIn wsX4_followLine wsX0_isBeyond := goodIn_r _ [33, 34, 35, 36] (by decide +kernel) (by decide +kernel)
set_option maxRecDepth 20000 in
theorem gX4_followLine_X0_isBeyond : GoodIn wsX4_followLine (va_wsS RX4 64 yX0_isBeyond wsX0_isBeyond) := goodIn_app (goodIn_of _ (by decide +kernel)) ggX4_followLine_X0_isBeyond
theorem dX4_followLine_0 : decode cX4_followLine 0 = .ok (.aload_n 1, 1) := by decide +kernel
theorem dX4_followLine_1 : decode cX4_followLine 1 = .ok (.iload_n 2, 1) := by decide +kernel
theorem dX4_followLine_2 : decode cX4_followLine 2 = .ok (.invokevirtual 28, 3) := by decide +kernel
theorem dX4_followLine_5 : decode cX4_followLine 5 = .ok (.ifCond .ne 4, 3) := by decide +kernel
theorem dX4_followLine_8 : decode cX4_followLine 8 = .ok (.return_, 1) := by decide +kernel
theorem dX4_followLine_9 : decode cX4_followLine 9 = .ok (.aload_n 1, 1) := by decide +kernel
theorem dX4_followLine_10 : decode cX4_followLine 10 = .ok (.getfield 41, 3) := by decide +kernel
theorem dX4_followLine_13 : decode cX4_followLine 13 = .ok (.iload_n 2, 1) := by decide +kernel
theorem dX4_followLine_14 : decode cX4_followLine 14 = .ok (.iaload, 1) := by decide +kernel
theorem dX4_followLine_15 : decode cX4_followLine 15 = .ok (.istore 4, 2) := by decide +kernel
theorem dX4_followLine_17 : decode cX4_followLine 17 = .ok (.iconst 0, 1) := by decide +kernel
theorem dX4_followLine_18 : decode cX4_followLine 18 = .ok (.istore 5, 2) := by decide +kernel
theorem dX4_followLine_20 : decode cX4_followLine 20 = .ok (.iconst 0, 1) := by decide +kernel
theorem dX4_followLine_21 : decode cX4_followLine 21 = .ok (.istore 6, 2) := by decide +kernel
theorem dX4_followLine_23 : decode cX4_followLine 23 = .ok (.iconst 0, 1) := by decide +kernel
theorem dX4_followLine_24 : decode cX4_followLine 24 = .ok (.istore 7, 2) := by decide +kernel
theorem dX4_followLine_26 : decode cX4_followLine 26 = .ok (.iconst 0, 1) := by decide +kernel
theorem dX4_followLine_27 : decode cX4_followLine 27 = .ok (.istore 8, 2) := by decide +kernel
theorem dX4_followLine_29 : decode cX4_followLine 29 = .ok (.iload 8, 2) := by decide +kernel
theorem dX4_followLine_31 : decode cX4_followLine 31 = .ok (.bipush 8, 2) := by decide +kernel
theorem dX4_followLine_33 : decode cX4_followLine 33 = .ok (.if_icmp .ge 96, 3) := by decide +kernel
theorem dX4_followLine_36 : decode cX4_followLine 36 = .ok (.aload_n 1, 1) := by decide +kernel
theorem dX4_followLine_37 : decode cX4_followLine 37 = .ok (.iload 8, 2) := by decide +kernel
theorem dX4_followLine_39 : decode cX4_followLine 39 = .ok (.invokevirtual 44, 3) := by decide +kernel
theorem dX4_followLine_42 : decode cX4_followLine 42 = .ok (.ifCond .eq 87, 3) := by decide +kernel
theorem dX4_followLine_45 : decode cX4_followLine 45 = .ok (.aload_n 1, 1) := by decide +kernel
theorem dX4_followLine_46 : decode cX4_followLine 46 = .ok (.getfield 47, 3) := by decide +kernel
theorem dX4_followLine_49 : decode cX4_followLine 49 = .ok (.iload 8, 2) := by decide +kernel
theorem dX4_followLine_51 : decode cX4_followLine 51 = .ok (.iaload, 1) := by decide +kernel
theorem dX4_followLine_52 : decode cX4_followLine 52 = .ok (.iload_n 3, 1) := by decide +kernel
theorem dX4_followLine_53 : decode cX4_followLine 53 = .ok (.if_icmp .ge 76, 3) := by decide +kernel
theorem dX4_followLine_56 : decode cX4_followLine 56 = .ok (.iload 6, 2) := by decide +kernel
theorem dX4_followLine_58 : decode cX4_followLine 58 = .ok (.iload 7, 2) := by decide +kernel
theorem dX4_followLine_60 : decode cX4_followLine 60 = .ok (.aload_n 1, 1) := by decide +kernel
theorem dX4_followLine_61 : decode cX4_followLine 61 = .ok (.getfield 47, 3) := by decide +kernel
theorem dX4_followLine_64 : decode cX4_followLine 64 = .ok (.iload 8, 2) := by decide +kernel
theorem dX4_followLine_66 : decode cX4_followLine 66 = .ok (.iaload, 1) := by decide +kernel
theorem dX4_followLine_67 : decode cX4_followLine 67 = .ok (.iload 5, 2) := by decide +kernel
theorem dX4_followLine_69 : decode cX4_followLine 69 = .ok (.isub, 1) := by decide +kernel
theorem dX4_followLine_70 : decode cX4_followLine 70 = .ok (.invokestatic 50, 3) := by decide +kernel
theorem dX4_followLine_73 : decode cX4_followLine 73 = .ok (.iadd, 1) := by decide +kernel
theorem dX4_followLine_74 : decode cX4_followLine 74 = .ok (.istore 6, 2) := by decide +kernel
theorem dX4_followLine_76 : decode cX4_followLine 76 = .ok (.aload_n 1, 1) := by decide +kernel
theorem dX4_followLine_77 : decode cX4_followLine 77 = .ok (.getfield 47, 3) := by decide +kernel
theorem dX4_followLine_80 : decode cX4_followLine 80 = .ok (.iload 8, 2) := by decide +kernel
theorem dX4_followLine_82 : decode cX4_followLine 82 = .ok (.iaload, 1) := by decide +kernel
theorem dX4_followLine_83 : decode cX4_followLine 83 = .ok (.istore 5, 2) := by decide +kernel
theorem dX4_followLine_85 : decode cX4_followLine 85 = .ok (.aload_n 1, 1) := by decide +kernel
theorem dX4_followLine_86 : decode cX4_followLine 86 = .ok (.iload 8, 2) := by decide +kernel
theorem dX4_followLine_88 : decode cX4_followLine 88 = .ok (.iload 6, 2) := by decide +kernel
theorem dX4_followLine_90 : decode cX4_followLine 90 = .ok (.invokevirtual 54, 3) := by decide +kernel
theorem dX4_followLine_93 : decode cX4_followLine 93 = .ok (.istore 9, 2) := by decide +kernel
theorem dX4_followLine_95 : decode cX4_followLine 95 = .ok (.iload 9, 2) := by decide +kernel
theorem dX4_followLine_97 : decode cX4_followLine 97 = .ok (.ifCond .eq 13, 3) := by decide +kernel
theorem dX4_followLine_100 : decode cX4_followLine 100 = .ok (.aload_n 0, 1) := by decide +kernel
theorem dX4_followLine_101 : decode cX4_followLine 101 = .ok (.iload_n 2, 1) := by decide +kernel
theorem dX4_followLine_102 : decode cX4_followLine 102 = .ok (.iload 5, 2) := by decide +kernel
theorem dX4_followLine_104 : decode cX4_followLine 104 = .ok (.iload 9, 2) := by decide +kernel
theorem dX4_followLine_106 : decode cX4_followLine 106 = .ok (.invokevirtual 57, 3) := by decide +kernel
theorem dX4_followLine_109 : decode cX4_followLine 109 = .ok (.return_, 1) := by decide +kernel
theorem dX4_followLine_110 : decode cX4_followLine 110 = .ok (.iload 7, 2) := by decide +kernel
theorem dX4_followLine_112 : decode cX4_followLine 112 = .ok (.aload_n 1, 1) := by decide +kernel
theorem dX4_followLine_113 : decode cX4_followLine 113 = .ok (.iload 8, 2) := by decide +kernel
theorem dX4_followLine_115 : decode cX4_followLine 115 = .ok (.iload 4, 2) := by decide +kernel
theorem dX4_followLine_117 : decode cX4_followLine 117 = .ok (.invokevirtual 61, 3) := by decide +kernel
theorem dX4_followLine_120 : decode cX4_followLine 120 = .ok (.iadd, 1) := by decide +kernel
theorem dX4_followLine_121 : decode cX4_followLine 121 = .ok (.istore 7, 2) := by decide +kernel
theorem dX4_followLine_123 : decode cX4_followLine 123 = .ok (.iinc 8 1, 3) := by decide +kernel
theorem dX4_followLine_126 : decode cX4_followLine 126 = .ok (.goto (-97), 3) := by decide +kernel
theorem dX4_followLine_129 : decode cX4_followLine 129 = .ok (.iload 6, 2) := by decide +kernel
theorem dX4_followLine_131 : decode cX4_followLine 131 = .ok (.iload 7, 2) := by decide +kernel
theorem dX4_followLine_133 : decode cX4_followLine 133 = .ok (.iload_n 3, 1) := by decide +kernel
theorem dX4_followLine_134 : decode cX4_followLine 134 = .ok (.iload 5, 2) := by decide +kernel
theorem dX4_followLine_136 : decode cX4_followLine 136 = .ok (.isub, 1) := by decide +kernel
theorem dX4_followLine_137 : decode cX4_followLine 137 = .ok (.invokestatic 50, 3) := by decide +kernel
theorem dX4_followLine_140 : decode cX4_followLine 140 = .ok (.iadd, 1) := by decide +kernel
theorem dX4_followLine_141 : decode cX4_followLine 141 = .ok (.istore 6, 2) := by decide +kernel
theorem dX4_followLine_143 : decode cX4_followLine 143 = .ok (.aload_n 0, 1) := by decide +kernel
theorem dX4_followLine_144 : decode cX4_followLine 144 = .ok (.getfield 9, 3) := by decide +kernel
theorem dX4_followLine_147 : decode cX4_followLine 147 = .ok (.iload_n 2, 1) := by decide +kernel
theorem dX4_followLine_148 : decode cX4_followLine 148 = .ok (.iload 6, 2) := by decide +kernel
theorem dX4_followLine_150 : decode cX4_followLine 150 = .ok (.iastore, 1) := by decide +kernel
theorem dX4_followLine_151 : decode cX4_followLine 151 = .ok (.aload_n 0, 1) := by decide +kernel
theorem dX4_followLine_152 : decode cX4_followLine 152 = .ok (.getfield 15, 3) := by decide +kernel
theorem dX4_followLine_155 : decode cX4_followLine 155 = .ok (.iload_n 2, 1) := by decide +kernel
theorem dX4_followLine_156 : decode cX4_followLine 156 = .ok (.iload 7, 2) := by decide +kernel
theorem dX4_followLine_158 : decode cX4_followLine 158 = .ok (.iastore, 1) := by decide +kernel
theorem dX4_followLine_159 : decode cX4_followLine 159 = .ok (.aload_n 0, 1) := by decide +kernel
theorem dX4_followLine_160 : decode cX4_followLine 160 = .ok (.iload_n 2, 1) := by decide +kernel
theorem dX4_followLine_161 : decode cX4_followLine 161 = .ok (.iload_n 3, 1) := by decide +kernel
theorem dX4_followLine_162 : decode cX4_followLine 162 = .ok (.iload 6, 2) := by decide +kernel
theorem dX4_followLine_164 : decode cX4_followLine 164 = .ok (.invokestatic 64, 3) := by decide +kernel
theorem dX4_followLine_167 : decode cX4_followLine 167 = .ok (.ifCond .eq 7, 3) := by decide +kernel
theorem dX4_followLine_170 : decode cX4_followLine 170 = .ok (.iconst 2, 1) := by decide +kernel
theorem dX4_followLine_171 : decode cX4_followLine 171 = .ok (.goto 4, 3) := by decide +kernel
theorem dX4_followLine_174 : decode cX4_followLine 174 = .ok (.iconst 0, 1) := by decide +kernel
theorem dX4_followLine_175 : decode cX4_followLine 175 = .ok (.invokevirtual 57, 3) := by decide +kernel
theorem dX4_followLine_178 : decode cX4_followLine 178 = .ok (.return_, 1) := by decide +kernel
set_option maxRecDepth 20000 in
theorem ggX4_rise_J9_floorDiv_7cf53 : GoodIn wsX4_rise wsJ9_floorDiv_7cf53 := goodIn_r _ [4] (by decide +kernel) (by decide +kernel)
set_option maxRecDepth 20000 in
theorem gX4_rise_J9_floorDiv_7cf53 : GoodIn wsX4_rise (va_wsS RX4 67 yJ9_floorDiv_7cf53 wsJ9_floorDiv_7cf53) := goodIn_app (goodIn_of _ (by decide +kernel)) ggX4_rise_J9_floorDiv_7cf53
theorem dX4_rise_0 : decode cX4_rise 0 = .ok (.iload_n 0, 1) := by decide +kernel
theorem dX4_rise_1 : decode cX4_rise 1 = .ok (.iload_n 1, 1) := by decide +kernel
theorem dX4_rise_2 : decode cX4_rise 2 = .ok (.imul, 1) := by decide +kernel
theorem dX4_rise_3 : decode cX4_rise 3 = .ok (.sipush 1000, 3) := by decide +kernel
theorem dX4_rise_6 : decode cX4_rise 6 = .ok (.invokestatic 67, 3) := by decide +kernel
theorem dX4_rise_9 : decode cX4_rise 9 = .ok (.ireturn, 1) := by decide +kernel
theorem dX4_finish_0 : decode cX4_finish 0 = .ok (.aload_n 0, 1) := by decide +kernel
theorem dX4_finish_1 : decode cX4_finish 1 = .ok (.getfield 18, 3) := by decide +kernel
theorem dX4_finish_4 : decode cX4_finish 4 = .ok (.iload_n 1, 1) := by decide +kernel
theorem dX4_finish_5 : decode cX4_finish 5 = .ok (.iload_n 2, 1) := by decide +kernel
theorem dX4_finish_6 : decode cX4_finish 6 = .ok (.iastore, 1) := by decide +kernel
theorem dX4_finish_7 : decode cX4_finish 7 = .ok (.aload_n 0, 1) := by decide +kernel
theorem dX4_finish_8 : decode cX4_finish 8 = .ok (.getfield 21, 3) := by decide +kernel
theorem dX4_finish_11 : decode cX4_finish 11 = .ok (.iload_n 1, 1) := by decide +kernel
theorem dX4_finish_12 : decode cX4_finish 12 = .ok (.iload_n 3, 1) := by decide +kernel
theorem dX4_finish_13 : decode cX4_finish 13 = .ok (.iastore, 1) := by decide +kernel
theorem dX4_finish_14 : decode cX4_finish 14 = .ok (.return_, 1) := by decide +kernel
theorem dX4_has_0 : decode cX4_has 0 = .ok (.iload_n 1, 1) := by decide +kernel
theorem dX4_has_1 : decode cX4_has 1 = .ok (.ifCond .lt 21, 3) := by decide +kernel
theorem dX4_has_4 : decode cX4_has 4 = .ok (.iload_n 1, 1) := by decide +kernel
theorem dX4_has_5 : decode cX4_has 5 = .ok (.aload_n 0, 1) := by decide +kernel
theorem dX4_has_6 : decode cX4_has 6 = .ok (.getfield 24, 3) := by decide +kernel
theorem dX4_has_9 : decode cX4_has 9 = .ok (.if_icmp .ge 13, 3) := by decide +kernel
theorem dX4_has_12 : decode cX4_has 12 = .ok (.iload_n 1, 1) := by decide +kernel
theorem dX4_has_13 : decode cX4_has 13 = .ok (.bipush 8, 2) := by decide +kernel
theorem dX4_has_15 : decode cX4_has 15 = .ok (.if_icmp .ge 7, 3) := by decide +kernel
theorem dX4_has_18 : decode cX4_has 18 = .ok (.iconst 1, 1) := by decide +kernel
theorem dX4_has_19 : decode cX4_has 19 = .ok (.goto 4, 3) := by decide +kernel
theorem dX4_has_22 : decode cX4_has 22 = .ok (.iconst 0, 1) := by decide +kernel
theorem dX4_has_23 : decode cX4_has 23 = .ok (.ireturn, 1) := by decide +kernel
theorem dX4_comes_0 : decode cX4_comes 0 = .ok (.iload_n 1, 1) := by decide +kernel
theorem dX4_comes_1 : decode cX4_comes 1 = .ok (.ifCond .lt 22, 3) := by decide +kernel
theorem dX4_comes_4 : decode cX4_comes 4 = .ok (.iload_n 1, 1) := by decide +kernel
theorem dX4_comes_5 : decode cX4_comes 5 = .ok (.bipush 8, 2) := by decide +kernel
theorem dX4_comes_7 : decode cX4_comes 7 = .ok (.if_icmp .ge 16, 3) := by decide +kernel
theorem dX4_comes_10 : decode cX4_comes 10 = .ok (.aload_n 0, 1) := by decide +kernel
theorem dX4_comes_11 : decode cX4_comes 11 = .ok (.getfield 21, 3) := by decide +kernel
theorem dX4_comes_14 : decode cX4_comes 14 = .ok (.iload_n 1, 1) := by decide +kernel
theorem dX4_comes_15 : decode cX4_comes 15 = .ok (.iaload, 1) := by decide +kernel
theorem dX4_comes_16 : decode cX4_comes 16 = .ok (.ifCond .ne 7, 3) := by decide +kernel
theorem dX4_comes_19 : decode cX4_comes 19 = .ok (.iconst 1, 1) := by decide +kernel
theorem dX4_comes_20 : decode cX4_comes 20 = .ok (.goto 4, 3) := by decide +kernel
theorem dX4_comes_23 : decode cX4_comes 23 = .ok (.iconst 0, 1) := by decide +kernel
theorem dX4_comes_24 : decode cX4_comes 24 = .ok (.ireturn, 1) := by decide +kernel
set_option maxRecDepth 20000 in
theorem ggX4_linesOnScreen_X4_has : GoodIn wsX4_linesOnScreen wsX4_has := goodIn_r _ [5, 6, 12, 13, 14, 15, 16] (by decide +kernel) (by decide +kernel)
set_option maxRecDepth 20000 in
theorem gX4_linesOnScreen_X4_has : GoodIn wsX4_linesOnScreen (wsV RX4 72 RX4 yX4_has wsX4_has) := goodIn_app (goodIn_of _ (by decide +kernel)) ggX4_linesOnScreen_X4_has
set_option maxRecDepth 20000 in
theorem ggX4_linesOnScreen_X4_comes : GoodIn wsX4_linesOnScreen wsX4_comes := goodIn_r _ [10, 11, 12, 13, 14, 15, 16] (by decide +kernel) (by decide +kernel)
set_option maxRecDepth 20000 in
theorem gX4_linesOnScreen_X4_comes : GoodIn wsX4_linesOnScreen (wsV RX4 75 RX4 yX4_comes wsX4_comes) := goodIn_app (goodIn_of _ (by decide +kernel)) ggX4_linesOnScreen_X4_comes
theorem dX4_linesOnScreen_0 : decode cX4_linesOnScreen 0 = .ok (.iconst 0, 1) := by decide +kernel
theorem dX4_linesOnScreen_1 : decode cX4_linesOnScreen 1 = .ok (.istore_n 1, 1) := by decide +kernel
theorem dX4_linesOnScreen_2 : decode cX4_linesOnScreen 2 = .ok (.iconst 0, 1) := by decide +kernel
theorem dX4_linesOnScreen_3 : decode cX4_linesOnScreen 3 = .ok (.istore_n 2, 1) := by decide +kernel
theorem dX4_linesOnScreen_4 : decode cX4_linesOnScreen 4 = .ok (.iload_n 2, 1) := by decide +kernel
theorem dX4_linesOnScreen_5 : decode cX4_linesOnScreen 5 = .ok (.bipush 8, 2) := by decide +kernel
theorem dX4_linesOnScreen_7 : decode cX4_linesOnScreen 7 = .ok (.if_icmp .ge 31, 3) := by decide +kernel
theorem dX4_linesOnScreen_10 : decode cX4_linesOnScreen 10 = .ok (.aload_n 0, 1) := by decide +kernel
theorem dX4_linesOnScreen_11 : decode cX4_linesOnScreen 11 = .ok (.iload_n 2, 1) := by decide +kernel
theorem dX4_linesOnScreen_12 : decode cX4_linesOnScreen 12 = .ok (.invokevirtual 72, 3) := by decide +kernel
theorem dX4_linesOnScreen_15 : decode cX4_linesOnScreen 15 = .ok (.ifCond .eq 23, 3) := by decide +kernel
theorem dX4_linesOnScreen_18 : decode cX4_linesOnScreen 18 = .ok (.aload_n 0, 1) := by decide +kernel
theorem dX4_linesOnScreen_19 : decode cX4_linesOnScreen 19 = .ok (.iload_n 2, 1) := by decide +kernel
theorem dX4_linesOnScreen_20 : decode cX4_linesOnScreen 20 = .ok (.invokevirtual 75, 3) := by decide +kernel
theorem dX4_linesOnScreen_23 : decode cX4_linesOnScreen 23 = .ok (.ifCond .eq 9, 3) := by decide +kernel
theorem dX4_linesOnScreen_26 : decode cX4_linesOnScreen 26 = .ok (.iload_n 1, 1) := by decide +kernel
theorem dX4_linesOnScreen_27 : decode cX4_linesOnScreen 27 = .ok (.iconst 1, 1) := by decide +kernel
theorem dX4_linesOnScreen_28 : decode cX4_linesOnScreen 28 = .ok (.iload_n 2, 1) := by decide +kernel
theorem dX4_linesOnScreen_29 : decode cX4_linesOnScreen 29 = .ok (.ishl, 1) := by decide +kernel
theorem dX4_linesOnScreen_30 : decode cX4_linesOnScreen 30 = .ok (.ior, 1) := by decide +kernel
theorem dX4_linesOnScreen_31 : decode cX4_linesOnScreen 31 = .ok (.istore_n 1, 1) := by decide +kernel
theorem dX4_linesOnScreen_32 : decode cX4_linesOnScreen 32 = .ok (.iinc 2 1, 3) := by decide +kernel
theorem dX4_linesOnScreen_35 : decode cX4_linesOnScreen 35 = .ok (.goto (-31), 3) := by decide +kernel
theorem dX4_linesOnScreen_38 : decode cX4_linesOnScreen 38 = .ok (.iload_n 1, 1) := by decide +kernel
theorem dX4_linesOnScreen_39 : decode cX4_linesOnScreen 39 = .ok (.ireturn, 1) := by decide +kernel
set_option maxRecDepth 20000 in
theorem ggX4_linesAt_X0_hasLine : GoodIn wsX4_linesAt wsX0_hasLine := goodIn_r _ [7, 8, 19, 20, 21, 22, 23, 24, 25, 26, 27, 28] (by decide +kernel) (by decide +kernel)
set_option maxRecDepth 20000 in
theorem gX4_linesAt_X0_hasLine : GoodIn wsX4_linesAt (wsV RX4 28 RX0 yX0_hasLine wsX0_hasLine) := goodIn_app (goodIn_of _ (by decide +kernel)) ggX4_linesAt_X0_hasLine
set_option maxRecDepth 20000 in
theorem ggX4_linesAt_X4_comes : GoodIn wsX4_linesAt wsX4_comes := goodIn_r _ [13, 2, 14, 15, 16, 17, 18] (by decide +kernel) (by decide +kernel)
set_option maxRecDepth 20000 in
theorem gX4_linesAt_X4_comes : GoodIn wsX4_linesAt (wsV RX4 75 RX4 yX4_comes wsX4_comes) := goodIn_app (goodIn_of _ (by decide +kernel)) ggX4_linesAt_X4_comes
theorem dX4_linesAt_0 : decode cX4_linesAt 0 = .ok (.iconst 0, 1) := by decide +kernel
theorem dX4_linesAt_1 : decode cX4_linesAt 1 = .ok (.istore_n 3, 1) := by decide +kernel
theorem dX4_linesAt_2 : decode cX4_linesAt 2 = .ok (.iconst 0, 1) := by decide +kernel
theorem dX4_linesAt_3 : decode cX4_linesAt 3 = .ok (.istore 4, 2) := by decide +kernel
theorem dX4_linesAt_5 : decode cX4_linesAt 5 = .ok (.iload 4, 2) := by decide +kernel
theorem dX4_linesAt_7 : decode cX4_linesAt 7 = .ok (.bipush 8, 2) := by decide +kernel
theorem dX4_linesAt_9 : decode cX4_linesAt 9 = .ok (.if_icmp .ge 91, 3) := by decide +kernel
theorem dX4_linesAt_12 : decode cX4_linesAt 12 = .ok (.aload_n 1, 1) := by decide +kernel
theorem dX4_linesAt_13 : decode cX4_linesAt 13 = .ok (.iload 4, 2) := by decide +kernel
theorem dX4_linesAt_15 : decode cX4_linesAt 15 = .ok (.invokevirtual 28, 3) := by decide +kernel
theorem dX4_linesAt_18 : decode cX4_linesAt 18 = .ok (.ifCond .eq 82, 3) := by decide +kernel
theorem dX4_linesAt_21 : decode cX4_linesAt 21 = .ok (.aload_n 0, 1) := by decide +kernel
theorem dX4_linesAt_22 : decode cX4_linesAt 22 = .ok (.iload 4, 2) := by decide +kernel
theorem dX4_linesAt_24 : decode cX4_linesAt 24 = .ok (.invokevirtual 75, 3) := by decide +kernel
theorem dX4_linesAt_27 : decode cX4_linesAt 27 = .ok (.ifCond .ne 14, 3) := by decide +kernel
theorem dX4_linesAt_30 : decode cX4_linesAt 30 = .ok (.aload_n 0, 1) := by decide +kernel
theorem dX4_linesAt_31 : decode cX4_linesAt 31 = .ok (.getfield 18, 3) := by decide +kernel
theorem dX4_linesAt_34 : decode cX4_linesAt 34 = .ok (.iload 4, 2) := by decide +kernel
theorem dX4_linesAt_36 : decode cX4_linesAt 36 = .ok (.iaload, 1) := by decide +kernel
theorem dX4_linesAt_37 : decode cX4_linesAt 37 = .ok (.iload_n 2, 1) := by decide +kernel
theorem dX4_linesAt_38 : decode cX4_linesAt 38 = .ok (.if_icmp .le 7, 3) := by decide +kernel
theorem dX4_linesAt_41 : decode cX4_linesAt 41 = .ok (.iconst 1, 1) := by decide +kernel
theorem dX4_linesAt_42 : decode cX4_linesAt 42 = .ok (.goto 4, 3) := by decide +kernel
theorem dX4_linesAt_45 : decode cX4_linesAt 45 = .ok (.iconst 0, 1) := by decide +kernel
theorem dX4_linesAt_46 : decode cX4_linesAt 46 = .ok (.istore 5, 2) := by decide +kernel
theorem dX4_linesAt_48 : decode cX4_linesAt 48 = .ok (.aload_n 0, 1) := by decide +kernel
theorem dX4_linesAt_49 : decode cX4_linesAt 49 = .ok (.getfield 18, 3) := by decide +kernel
theorem dX4_linesAt_52 : decode cX4_linesAt 52 = .ok (.iload 4, 2) := by decide +kernel
theorem dX4_linesAt_54 : decode cX4_linesAt 54 = .ok (.iaload, 1) := by decide +kernel
theorem dX4_linesAt_55 : decode cX4_linesAt 55 = .ok (.iload_n 2, 1) := by decide +kernel
theorem dX4_linesAt_56 : decode cX4_linesAt 56 = .ok (.if_icmp .ne 18, 3) := by decide +kernel
theorem dX4_linesAt_59 : decode cX4_linesAt 59 = .ok (.aload_n 0, 1) := by decide +kernel
theorem dX4_linesAt_60 : decode cX4_linesAt 60 = .ok (.getfield 21, 3) := by decide +kernel
theorem dX4_linesAt_63 : decode cX4_linesAt 63 = .ok (.iload 4, 2) := by decide +kernel
theorem dX4_linesAt_65 : decode cX4_linesAt 65 = .ok (.iaload, 1) := by decide +kernel
theorem dX4_linesAt_66 : decode cX4_linesAt 66 = .ok (.iconst 1, 1) := by decide +kernel
theorem dX4_linesAt_67 : decode cX4_linesAt 67 = .ok (.if_icmp .ne 7, 3) := by decide +kernel
theorem dX4_linesAt_70 : decode cX4_linesAt 70 = .ok (.iconst 1, 1) := by decide +kernel
theorem dX4_linesAt_71 : decode cX4_linesAt 71 = .ok (.goto 4, 3) := by decide +kernel
theorem dX4_linesAt_74 : decode cX4_linesAt 74 = .ok (.iconst 0, 1) := by decide +kernel
theorem dX4_linesAt_75 : decode cX4_linesAt 75 = .ok (.istore 6, 2) := by decide +kernel
theorem dX4_linesAt_77 : decode cX4_linesAt 77 = .ok (.iload 5, 2) := by decide +kernel
theorem dX4_linesAt_79 : decode cX4_linesAt 79 = .ok (.ifCond .ne 8, 3) := by decide +kernel
theorem dX4_linesAt_82 : decode cX4_linesAt 82 = .ok (.iload 6, 2) := by decide +kernel
theorem dX4_linesAt_84 : decode cX4_linesAt 84 = .ok (.ifCond .eq 10, 3) := by decide +kernel
theorem dX4_linesAt_87 : decode cX4_linesAt 87 = .ok (.iload_n 3, 1) := by decide +kernel
theorem dX4_linesAt_88 : decode cX4_linesAt 88 = .ok (.iconst 1, 1) := by decide +kernel
theorem dX4_linesAt_89 : decode cX4_linesAt 89 = .ok (.iload 4, 2) := by decide +kernel
theorem dX4_linesAt_91 : decode cX4_linesAt 91 = .ok (.ishl, 1) := by decide +kernel
theorem dX4_linesAt_92 : decode cX4_linesAt 92 = .ok (.ior, 1) := by decide +kernel
theorem dX4_linesAt_93 : decode cX4_linesAt 93 = .ok (.istore_n 3, 1) := by decide +kernel
theorem dX4_linesAt_94 : decode cX4_linesAt 94 = .ok (.iinc 4 1, 3) := by decide +kernel
theorem dX4_linesAt_97 : decode cX4_linesAt 97 = .ok (.goto (-92), 3) := by decide +kernel
theorem dX4_linesAt_100 : decode cX4_linesAt 100 = .ok (.iload_n 3, 1) := by decide +kernel
theorem dX4_linesAt_101 : decode cX4_linesAt 101 = .ok (.ireturn, 1) := by decide +kernel
set_option maxRecDepth 20000 in
theorem ggX4_lightLostAt_X0_hasLine : GoodIn wsX4_lightLostAt wsX0_hasLine := goodIn_r _ [7, 8, 20, 21, 22, 23, 24, 25, 26, 27, 28, 29] (by decide +kernel) (by decide +kernel)
set_option maxRecDepth 20000 in
theorem gX4_lightLostAt_X0_hasLine : GoodIn wsX4_lightLostAt (wsV RX4 28 RX0 yX0_hasLine wsX0_hasLine) := goodIn_app (goodIn_of _ (by decide +kernel)) ggX4_lightLostAt_X0_hasLine
set_option maxRecDepth 20000 in
theorem ggX4_lightLostAt_X4_comes : GoodIn wsX4_lightLostAt wsX4_comes := goodIn_r _ [13, 14, 15, 16, 17, 18, 19] (by decide +kernel) (by decide +kernel)
set_option maxRecDepth 20000 in
theorem gX4_lightLostAt_X4_comes : GoodIn wsX4_lightLostAt (wsV RX4 75 RX4 yX4_comes wsX4_comes) := goodIn_app (goodIn_of _ (by decide +kernel)) ggX4_lightLostAt_X4_comes
theorem dX4_lightLostAt_0 : decode cX4_lightLostAt 0 = .ok (.iconst 0, 1) := by decide +kernel
theorem dX4_lightLostAt_1 : decode cX4_lightLostAt 1 = .ok (.istore_n 3, 1) := by decide +kernel
theorem dX4_lightLostAt_2 : decode cX4_lightLostAt 2 = .ok (.iconst 0, 1) := by decide +kernel
theorem dX4_lightLostAt_3 : decode cX4_lightLostAt 3 = .ok (.istore 4, 2) := by decide +kernel
theorem dX4_lightLostAt_5 : decode cX4_lightLostAt 5 = .ok (.iload 4, 2) := by decide +kernel
theorem dX4_lightLostAt_7 : decode cX4_lightLostAt 7 = .ok (.bipush 8, 2) := by decide +kernel
theorem dX4_lightLostAt_9 : decode cX4_lightLostAt 9 = .ok (.if_icmp .ge 48, 3) := by decide +kernel
theorem dX4_lightLostAt_12 : decode cX4_lightLostAt 12 = .ok (.aload_n 1, 1) := by decide +kernel
theorem dX4_lightLostAt_13 : decode cX4_lightLostAt 13 = .ok (.iload 4, 2) := by decide +kernel
theorem dX4_lightLostAt_15 : decode cX4_lightLostAt 15 = .ok (.invokevirtual 28, 3) := by decide +kernel
theorem dX4_lightLostAt_18 : decode cX4_lightLostAt 18 = .ok (.ifCond .eq 39, 3) := by decide +kernel
theorem dX4_lightLostAt_21 : decode cX4_lightLostAt 21 = .ok (.aload_n 0, 1) := by decide +kernel
theorem dX4_lightLostAt_22 : decode cX4_lightLostAt 22 = .ok (.iload 4, 2) := by decide +kernel
theorem dX4_lightLostAt_24 : decode cX4_lightLostAt 24 = .ok (.invokevirtual 75, 3) := by decide +kernel
theorem dX4_lightLostAt_27 : decode cX4_lightLostAt 27 = .ok (.ifCond .ne 24, 3) := by decide +kernel
theorem dX4_lightLostAt_30 : decode cX4_lightLostAt 30 = .ok (.aload_n 0, 1) := by decide +kernel
theorem dX4_lightLostAt_31 : decode cX4_lightLostAt 31 = .ok (.getfield 18, 3) := by decide +kernel
theorem dX4_lightLostAt_34 : decode cX4_lightLostAt 34 = .ok (.iload 4, 2) := by decide +kernel
theorem dX4_lightLostAt_36 : decode cX4_lightLostAt 36 = .ok (.iaload, 1) := by decide +kernel
theorem dX4_lightLostAt_37 : decode cX4_lightLostAt 37 = .ok (.iload_n 2, 1) := by decide +kernel
theorem dX4_lightLostAt_38 : decode cX4_lightLostAt 38 = .ok (.if_icmp .ne 13, 3) := by decide +kernel
theorem dX4_lightLostAt_41 : decode cX4_lightLostAt 41 = .ok (.iload_n 3, 1) := by decide +kernel
theorem dX4_lightLostAt_42 : decode cX4_lightLostAt 42 = .ok (.aload_n 1, 1) := by decide +kernel
theorem dX4_lightLostAt_43 : decode cX4_lightLostAt 43 = .ok (.getfield 78, 3) := by decide +kernel
theorem dX4_lightLostAt_46 : decode cX4_lightLostAt 46 = .ok (.iload 4, 2) := by decide +kernel
theorem dX4_lightLostAt_48 : decode cX4_lightLostAt 48 = .ok (.iaload, 1) := by decide +kernel
theorem dX4_lightLostAt_49 : decode cX4_lightLostAt 49 = .ok (.iadd, 1) := by decide +kernel
theorem dX4_lightLostAt_50 : decode cX4_lightLostAt 50 = .ok (.istore_n 3, 1) := by decide +kernel
theorem dX4_lightLostAt_51 : decode cX4_lightLostAt 51 = .ok (.iinc 4 1, 3) := by decide +kernel
theorem dX4_lightLostAt_54 : decode cX4_lightLostAt 54 = .ok (.goto (-49), 3) := by decide +kernel
theorem dX4_lightLostAt_57 : decode cX4_lightLostAt 57 = .ok (.iload_n 3, 1) := by decide +kernel
theorem dX4_lightLostAt_58 : decode cX4_lightLostAt 58 = .ok (.ireturn, 1) := by decide +kernel
set_option maxRecDepth 20000 in
theorem ggX4_lightOnScreen_X0_hasLine : GoodIn wsX4_lightOnScreen wsX0_hasLine := goodIn_r _ [6, 7, 14, 15, 16, 17, 18, 19, 20, 21, 22, 23] (by decide +kernel) (by decide +kernel)
set_option maxRecDepth 20000 in
theorem gX4_lightOnScreen_X0_hasLine : GoodIn wsX4_lightOnScreen (wsV RX4 28 RX0 yX0_hasLine wsX0_hasLine) := goodIn_app (goodIn_of _ (by decide +kernel)) ggX4_lightOnScreen_X0_hasLine
set_option maxRecDepth 20000 in
theorem ggX4_lightOnScreen_X4_comes : GoodIn wsX4_lightOnScreen wsX4_comes := goodIn_r _ [12, 13, 24, 25, 26, 27, 28] (by decide +kernel) (by decide +kernel)
set_option maxRecDepth 20000 in
theorem gX4_lightOnScreen_X4_comes : GoodIn wsX4_lightOnScreen (wsV RX4 75 RX4 yX4_comes wsX4_comes) := goodIn_app (goodIn_of _ (by decide +kernel)) ggX4_lightOnScreen_X4_comes
theorem dX4_lightOnScreen_0 : decode cX4_lightOnScreen 0 = .ok (.iconst 0, 1) := by decide +kernel
theorem dX4_lightOnScreen_1 : decode cX4_lightOnScreen 1 = .ok (.istore_n 2, 1) := by decide +kernel
theorem dX4_lightOnScreen_2 : decode cX4_lightOnScreen 2 = .ok (.iconst 0, 1) := by decide +kernel
theorem dX4_lightOnScreen_3 : decode cX4_lightOnScreen 3 = .ok (.istore_n 3, 1) := by decide +kernel
theorem dX4_lightOnScreen_4 : decode cX4_lightOnScreen 4 = .ok (.iload_n 3, 1) := by decide +kernel
theorem dX4_lightOnScreen_5 : decode cX4_lightOnScreen 5 = .ok (.bipush 8, 2) := by decide +kernel
theorem dX4_lightOnScreen_7 : decode cX4_lightOnScreen 7 = .ok (.if_icmp .ge 34, 3) := by decide +kernel
theorem dX4_lightOnScreen_10 : decode cX4_lightOnScreen 10 = .ok (.aload_n 1, 1) := by decide +kernel
theorem dX4_lightOnScreen_11 : decode cX4_lightOnScreen 11 = .ok (.iload_n 3, 1) := by decide +kernel
theorem dX4_lightOnScreen_12 : decode cX4_lightOnScreen 12 = .ok (.invokevirtual 28, 3) := by decide +kernel
theorem dX4_lightOnScreen_15 : decode cX4_lightOnScreen 15 = .ok (.ifCond .eq 26, 3) := by decide +kernel
theorem dX4_lightOnScreen_18 : decode cX4_lightOnScreen 18 = .ok (.aload_n 0, 1) := by decide +kernel
theorem dX4_lightOnScreen_19 : decode cX4_lightOnScreen 19 = .ok (.iload_n 3, 1) := by decide +kernel
theorem dX4_lightOnScreen_20 : decode cX4_lightOnScreen 20 = .ok (.invokevirtual 75, 3) := by decide +kernel
theorem dX4_lightOnScreen_23 : decode cX4_lightOnScreen 23 = .ok (.ifCond .eq 12, 3) := by decide +kernel
theorem dX4_lightOnScreen_26 : decode cX4_lightOnScreen 26 = .ok (.iload_n 2, 1) := by decide +kernel
theorem dX4_lightOnScreen_27 : decode cX4_lightOnScreen 27 = .ok (.aload_n 1, 1) := by decide +kernel
theorem dX4_lightOnScreen_28 : decode cX4_lightOnScreen 28 = .ok (.getfield 78, 3) := by decide +kernel
theorem dX4_lightOnScreen_31 : decode cX4_lightOnScreen 31 = .ok (.iload_n 3, 1) := by decide +kernel
theorem dX4_lightOnScreen_32 : decode cX4_lightOnScreen 32 = .ok (.iaload, 1) := by decide +kernel
theorem dX4_lightOnScreen_33 : decode cX4_lightOnScreen 33 = .ok (.iadd, 1) := by decide +kernel
theorem dX4_lightOnScreen_34 : decode cX4_lightOnScreen 34 = .ok (.istore_n 2, 1) := by decide +kernel
theorem dX4_lightOnScreen_35 : decode cX4_lightOnScreen 35 = .ok (.iinc 3 1, 3) := by decide +kernel
theorem dX4_lightOnScreen_38 : decode cX4_lightOnScreen 38 = .ok (.goto (-34), 3) := by decide +kernel
theorem dX4_lightOnScreen_41 : decode cX4_lightOnScreen 41 = .ok (.iload_n 2, 1) := by decide +kernel
theorem dX4_lightOnScreen_42 : decode cX4_lightOnScreen 42 = .ok (.ireturn, 1) := by decide +kernel
set_option maxRecDepth 20000 in
theorem ggX4_spread_X4_has : GoodIn wsX4_spread wsX4_has := goodIn_r _ [13, 14, 20, 21, 22, 23, 24] (by decide +kernel) (by decide +kernel)
set_option maxRecDepth 20000 in
theorem gX4_spread_X4_has : GoodIn wsX4_spread (wsV RX4 72 RX4 yX4_has wsX4_has) := goodIn_app (goodIn_of _ (by decide +kernel)) ggX4_spread_X4_has
set_option maxRecDepth 20000 in
theorem ggX4_spread_X4_comes : GoodIn wsX4_spread wsX4_comes := goodIn_r _ [18, 19, 20, 21, 22, 23, 24] (by decide +kernel) (by decide +kernel)
set_option maxRecDepth 20000 in
theorem gX4_spread_X4_comes : GoodIn wsX4_spread (wsV RX4 75 RX4 yX4_comes wsX4_comes) := goodIn_app (goodIn_of _ (by decide +kernel)) ggX4_spread_X4_comes
theorem dX4_spread_0 : decode cX4_spread 0 = .ok (.sipush 999, 3) := by decide +kernel
theorem dX4_spread_3 : decode cX4_spread 3 = .ok (.istore_n 1, 1) := by decide +kernel
theorem dX4_spread_4 : decode cX4_spread 4 = .ok (.sipush (-999), 3) := by decide +kernel
theorem dX4_spread_7 : decode cX4_spread 7 = .ok (.istore_n 2, 1) := by decide +kernel
theorem dX4_spread_8 : decode cX4_spread 8 = .ok (.iconst 0, 1) := by decide +kernel
theorem dX4_spread_9 : decode cX4_spread 9 = .ok (.istore_n 3, 1) := by decide +kernel
theorem dX4_spread_10 : decode cX4_spread 10 = .ok (.iload_n 3, 1) := by decide +kernel
theorem dX4_spread_11 : decode cX4_spread 11 = .ok (.bipush 8, 2) := by decide +kernel
theorem dX4_spread_13 : decode cX4_spread 13 = .ok (.if_icmp .ge 47, 3) := by decide +kernel
theorem dX4_spread_16 : decode cX4_spread 16 = .ok (.aload_n 0, 1) := by decide +kernel
theorem dX4_spread_17 : decode cX4_spread 17 = .ok (.iload_n 3, 1) := by decide +kernel
theorem dX4_spread_18 : decode cX4_spread 18 = .ok (.invokevirtual 72, 3) := by decide +kernel
theorem dX4_spread_21 : decode cX4_spread 21 = .ok (.ifCond .eq 39, 3) := by decide +kernel
theorem dX4_spread_24 : decode cX4_spread 24 = .ok (.aload_n 0, 1) := by decide +kernel
theorem dX4_spread_25 : decode cX4_spread 25 = .ok (.iload_n 3, 1) := by decide +kernel
theorem dX4_spread_26 : decode cX4_spread 26 = .ok (.invokevirtual 75, 3) := by decide +kernel
theorem dX4_spread_29 : decode cX4_spread 29 = .ok (.ifCond .eq 25, 3) := by decide +kernel
theorem dX4_spread_32 : decode cX4_spread 32 = .ok (.iload_n 1, 1) := by decide +kernel
theorem dX4_spread_33 : decode cX4_spread 33 = .ok (.aload_n 0, 1) := by decide +kernel
theorem dX4_spread_34 : decode cX4_spread 34 = .ok (.getfield 9, 3) := by decide +kernel
theorem dX4_spread_37 : decode cX4_spread 37 = .ok (.iload_n 3, 1) := by decide +kernel
theorem dX4_spread_38 : decode cX4_spread 38 = .ok (.iaload, 1) := by decide +kernel
theorem dX4_spread_39 : decode cX4_spread 39 = .ok (.invokestatic 81, 3) := by decide +kernel
theorem dX4_spread_42 : decode cX4_spread 42 = .ok (.istore_n 1, 1) := by decide +kernel
theorem dX4_spread_43 : decode cX4_spread 43 = .ok (.iload_n 2, 1) := by decide +kernel
theorem dX4_spread_44 : decode cX4_spread 44 = .ok (.aload_n 0, 1) := by decide +kernel
theorem dX4_spread_45 : decode cX4_spread 45 = .ok (.getfield 9, 3) := by decide +kernel
theorem dX4_spread_48 : decode cX4_spread 48 = .ok (.iload_n 3, 1) := by decide +kernel
theorem dX4_spread_49 : decode cX4_spread 49 = .ok (.iaload, 1) := by decide +kernel
theorem dX4_spread_50 : decode cX4_spread 50 = .ok (.invokestatic 84, 3) := by decide +kernel
theorem dX4_spread_53 : decode cX4_spread 53 = .ok (.istore_n 2, 1) := by decide +kernel
theorem dX4_spread_54 : decode cX4_spread 54 = .ok (.iinc 3 1, 3) := by decide +kernel
theorem dX4_spread_57 : decode cX4_spread 57 = .ok (.goto (-47), 3) := by decide +kernel
theorem dX4_spread_60 : decode cX4_spread 60 = .ok (.iload_n 2, 1) := by decide +kernel
theorem dX4_spread_61 : decode cX4_spread 61 = .ok (.iload_n 1, 1) := by decide +kernel
theorem dX4_spread_62 : decode cX4_spread 62 = .ok (.if_icmp .ge 7, 3) := by decide +kernel
theorem dX4_spread_65 : decode cX4_spread 65 = .ok (.iconst 0, 1) := by decide +kernel
theorem dX4_spread_66 : decode cX4_spread 66 = .ok (.goto 6, 3) := by decide +kernel
theorem dX4_spread_69 : decode cX4_spread 69 = .ok (.iload_n 2, 1) := by decide +kernel
theorem dX4_spread_70 : decode cX4_spread 70 = .ok (.iload_n 1, 1) := by decide +kernel
theorem dX4_spread_71 : decode cX4_spread 71 = .ok (.isub, 1) := by decide +kernel
theorem dX4_spread_72 : decode cX4_spread 72 = .ok (.ireturn, 1) := by decide +kernel
set_option maxRecDepth 20000 in
theorem ggX4_slopesAreSame_X4_has : GoodIn wsX4_slopesAreSame wsX4_has := goodIn_r _ [6, 7, 8, 9, 10, 11, 12] (by decide +kernel) (by decide +kernel)
set_option maxRecDepth 20000 in
theorem gX4_slopesAreSame_X4_has : GoodIn wsX4_slopesAreSame (wsV RX4 72 RX4 yX4_has wsX4_has) := goodIn_app (goodIn_of _ (by decide +kernel)) ggX4_slopesAreSame_X4_has
theorem dX4_slopesAreSame_0 : decode cX4_slopesAreSame 0 = .ok (.iconst 1, 1) := by decide +kernel
theorem dX4_slopesAreSame_1 : decode cX4_slopesAreSame 1 = .ok (.istore_n 1, 1) := by decide +kernel
theorem dX4_slopesAreSame_2 : decode cX4_slopesAreSame 2 = .ok (.iload_n 1, 1) := by decide +kernel
theorem dX4_slopesAreSame_3 : decode cX4_slopesAreSame 3 = .ok (.bipush 8, 2) := by decide +kernel
theorem dX4_slopesAreSame_5 : decode cX4_slopesAreSame 5 = .ok (.if_icmp .ge 34, 3) := by decide +kernel
theorem dX4_slopesAreSame_8 : decode cX4_slopesAreSame 8 = .ok (.aload_n 0, 1) := by decide +kernel
theorem dX4_slopesAreSame_9 : decode cX4_slopesAreSame 9 = .ok (.iload_n 1, 1) := by decide +kernel
theorem dX4_slopesAreSame_10 : decode cX4_slopesAreSame 10 = .ok (.invokevirtual 72, 3) := by decide +kernel
theorem dX4_slopesAreSame_13 : decode cX4_slopesAreSame 13 = .ok (.ifCond .eq 26, 3) := by decide +kernel
theorem dX4_slopesAreSame_16 : decode cX4_slopesAreSame 16 = .ok (.aload_n 0, 1) := by decide +kernel
theorem dX4_slopesAreSame_17 : decode cX4_slopesAreSame 17 = .ok (.getfield 15, 3) := by decide +kernel
theorem dX4_slopesAreSame_20 : decode cX4_slopesAreSame 20 = .ok (.iload_n 1, 1) := by decide +kernel
theorem dX4_slopesAreSame_21 : decode cX4_slopesAreSame 21 = .ok (.iaload, 1) := by decide +kernel
theorem dX4_slopesAreSame_22 : decode cX4_slopesAreSame 22 = .ok (.aload_n 0, 1) := by decide +kernel
theorem dX4_slopesAreSame_23 : decode cX4_slopesAreSame 23 = .ok (.getfield 15, 3) := by decide +kernel
theorem dX4_slopesAreSame_26 : decode cX4_slopesAreSame 26 = .ok (.iconst 0, 1) := by decide +kernel
theorem dX4_slopesAreSame_27 : decode cX4_slopesAreSame 27 = .ok (.iaload, 1) := by decide +kernel
theorem dX4_slopesAreSame_28 : decode cX4_slopesAreSame 28 = .ok (.if_icmp .eq 5, 3) := by decide +kernel
theorem dX4_slopesAreSame_31 : decode cX4_slopesAreSame 31 = .ok (.iconst 0, 1) := by decide +kernel
theorem dX4_slopesAreSame_32 : decode cX4_slopesAreSame 32 = .ok (.ireturn, 1) := by decide +kernel
theorem dX4_slopesAreSame_33 : decode cX4_slopesAreSame 33 = .ok (.iinc 1 1, 3) := by decide +kernel
theorem dX4_slopesAreSame_36 : decode cX4_slopesAreSame 36 = .ok (.goto (-34), 3) := by decide +kernel
theorem dX4_slopesAreSame_39 : decode cX4_slopesAreSame 39 = .ok (.iconst 1, 1) := by decide +kernel
theorem dX4_slopesAreSame_40 : decode cX4_slopesAreSame 40 = .ok (.ireturn, 1) := by decide +kernel
theorem dX5_init_0 : decode cX5_init 0 = .ok (.aload_n 0, 1) := by decide +kernel
theorem dX5_init_1 : decode cX5_init 1 = .ok (.invokespecial 3, 3) := by decide +kernel
theorem dX5_init_4 : decode cX5_init 4 = .ok (.aload_n 0, 1) := by decide +kernel
theorem dX5_init_5 : decode cX5_init 5 = .ok (.bipush 60, 2) := by decide +kernel
theorem dX5_init_7 : decode cX5_init 7 = .ok (.newarray .char, 2) := by decide +kernel
theorem dX5_init_9 : decode cX5_init 9 = .ok (.putfield 9, 3) := by decide +kernel
theorem dX5_init_12 : decode cX5_init 12 = .ok (.aload_n 0, 1) := by decide +kernel
theorem dX5_init_13 : decode cX5_init 13 = .ok (.iconst 0, 1) := by decide +kernel
theorem dX5_init_14 : decode cX5_init 14 = .ok (.putfield 15, 3) := by decide +kernel
theorem dX5_init_17 : decode cX5_init 17 = .ok (.aload_n 0, 1) := by decide +kernel
theorem dX5_init_18 : decode cX5_init 18 = .ok (.iconst 0, 1) := by decide +kernel
theorem dX5_init_19 : decode cX5_init 19 = .ok (.putfield 19, 3) := by decide +kernel
theorem dX5_init_22 : decode cX5_init 22 = .ok (.aload_n 0, 1) := by decide +kernel
theorem dX5_init_23 : decode cX5_init 23 = .ok (.iconst 3, 1) := by decide +kernel
theorem dX5_init_24 : decode cX5_init 24 = .ok (.newarray .int, 2) := by decide +kernel
theorem dX5_init_26 : decode cX5_init 26 = .ok (.putfield 23, 3) := by decide +kernel
theorem dX5_init_29 : decode cX5_init 29 = .ok (.aload_n 0, 1) := by decide +kernel
theorem dX5_init_30 : decode cX5_init 30 = .ok (.iconst 0, 1) := by decide +kernel
theorem dX5_init_31 : decode cX5_init 31 = .ok (.putfield 27, 3) := by decide +kernel
theorem dX5_init_34 : decode cX5_init 34 = .ok (.return_, 1) := by decide +kernel
theorem dX5_append_0 : decode cX5_append 0 = .ok (.aload_n 0, 1) := by decide +kernel
theorem dX5_append_1 : decode cX5_append 1 = .ok (.getfield 15, 3) := by decide +kernel
theorem dX5_append_4 : decode cX5_append 4 = .ok (.ifCond .lt 12, 3) := by decide +kernel
theorem dX5_append_7 : decode cX5_append 7 = .ok (.aload_n 0, 1) := by decide +kernel
theorem dX5_append_8 : decode cX5_append 8 = .ok (.getfield 15, 3) := by decide +kernel
theorem dX5_append_11 : decode cX5_append 11 = .ok (.bipush 60, 2) := by decide +kernel
theorem dX5_append_13 : decode cX5_append 13 = .ok (.if_icmp .lt 5, 3) := by decide +kernel
theorem dX5_append_16 : decode cX5_append 16 = .ok (.iconst 0, 1) := by decide +kernel
theorem dX5_append_17 : decode cX5_append 17 = .ok (.ireturn, 1) := by decide +kernel
theorem dX5_append_18 : decode cX5_append 18 = .ok (.aload_n 0, 1) := by decide +kernel
theorem dX5_append_19 : decode cX5_append 19 = .ok (.getfield 9, 3) := by decide +kernel
theorem dX5_append_22 : decode cX5_append 22 = .ok (.aload_n 0, 1) := by decide +kernel
theorem dX5_append_23 : decode cX5_append 23 = .ok (.getfield 15, 3) := by decide +kernel
theorem dX5_append_26 : decode cX5_append 26 = .ok (.iload_n 1, 1) := by decide +kernel
theorem dX5_append_27 : decode cX5_append 27 = .ok (.castore, 1) := by decide +kernel
theorem dX5_append_28 : decode cX5_append 28 = .ok (.aload_n 0, 1) := by decide +kernel
theorem dX5_append_29 : decode cX5_append 29 = .ok (.dup, 1) := by decide +kernel
theorem dX5_append_30 : decode cX5_append 30 = .ok (.getfield 15, 3) := by decide +kernel
theorem dX5_append_33 : decode cX5_append 33 = .ok (.iconst 1, 1) := by decide +kernel
theorem dX5_append_34 : decode cX5_append 34 = .ok (.iadd, 1) := by decide +kernel
theorem dX5_append_35 : decode cX5_append 35 = .ok (.putfield 15, 3) := by decide +kernel
theorem dX5_append_38 : decode cX5_append 38 = .ok (.iconst 1, 1) := by decide +kernel
theorem dX5_append_39 : decode cX5_append 39 = .ok (.ireturn, 1) := by decide +kernel
theorem dX5_signAt_0 : decode cX5_signAt 0 = .ok (.iload_n 1, 1) := by decide +kernel
theorem dX5_signAt_1 : decode cX5_signAt 1 = .ok (.ifCond .lt 26, 3) := by decide +kernel
theorem dX5_signAt_4 : decode cX5_signAt 4 = .ok (.iload_n 1, 1) := by decide +kernel
theorem dX5_signAt_5 : decode cX5_signAt 5 = .ok (.aload_n 0, 1) := by decide +kernel
theorem dX5_signAt_6 : decode cX5_signAt 6 = .ok (.getfield 15, 3) := by decide +kernel
theorem dX5_signAt_9 : decode cX5_signAt 9 = .ok (.if_icmp .ge 18, 3) := by decide +kernel
theorem dX5_signAt_12 : decode cX5_signAt 12 = .ok (.iload_n 1, 1) := by decide +kernel
theorem dX5_signAt_13 : decode cX5_signAt 13 = .ok (.bipush 60, 2) := by decide +kernel
theorem dX5_signAt_15 : decode cX5_signAt 15 = .ok (.if_icmp .ge 12, 3) := by decide +kernel
theorem dX5_signAt_18 : decode cX5_signAt 18 = .ok (.aload_n 0, 1) := by decide +kernel
theorem dX5_signAt_19 : decode cX5_signAt 19 = .ok (.getfield 9, 3) := by decide +kernel
theorem dX5_signAt_22 : decode cX5_signAt 22 = .ok (.iload_n 1, 1) := by decide +kernel
theorem dX5_signAt_23 : decode cX5_signAt 23 = .ok (.caload, 1) := by decide +kernel
theorem dX5_signAt_24 : decode cX5_signAt 24 = .ok (.goto 4, 3) := by decide +kernel
theorem dX5_signAt_27 : decode cX5_signAt 27 = .ok (.iconst 0, 1) := by decide +kernel
theorem dX5_signAt_28 : decode cX5_signAt 28 = .ok (.ireturn, 1) := by decide +kernel
set_option maxRecDepth 20000 in
theorem ggX5_readOrder_X5_signAt : GoodIn wsX5_readOrder wsX5_signAt := goodIn_r _ [7, 8, 9, 25, 26, 27, 28, 29] (by decide +kernel) (by decide +kernel)
set_option maxRecDepth 20000 in
theorem gX5_readOrder_X5_signAt : GoodIn wsX5_readOrder (wsV RX5 30 RX5 yX5_signAt wsX5_signAt) := goodIn_app (goodIn_of _ (by decide +kernel)) ggX5_readOrder_X5_signAt
set_option maxRecDepth 20000 in
theorem ggX5_readOrder_X5_numbersOf : GoodIn wsX5_readOrder wsX5_numbersOf := goodIn_r _ [12] (by decide +kernel) (by decide +kernel)
set_option maxRecDepth 20000 in
theorem gX5_readOrder_X5_numbersOf : GoodIn wsX5_readOrder (va_wsS RX5 34 yX5_numbersOf wsX5_numbersOf) := goodIn_app (goodIn_of _ (by decide +kernel)) ggX5_readOrder_X5_numbersOf
set_option maxRecDepth 20000 in
theorem ggX5_readOrder_X5_readNumber : GoodIn wsX5_readOrder wsX5_readNumber := goodIn_r _ [16, 1, 17, 3, 4, 5, 6, 7, 8, 9, 18, 19, 20, 25, 26, 27, 28, 29] (by decide +kernel) (by decide +kernel)
set_option maxRecDepth 20000 in
theorem gX5_readOrder_X5_readNumber : GoodIn wsX5_readOrder (wsV RX5 38 RX5 yX5_readNumber wsX5_readNumber) := goodIn_app (goodIn_of _ (by decide +kernel)) ggX5_readOrder_X5_readNumber
set_option maxRecDepth 20000 in
theorem ggX5_readOrder_X5_readSign : GoodIn wsX5_readOrder wsX5_readSign := goodIn_r _ [24, 1, 3, 4, 5, 6, 7, 8, 9, 25, 26, 27, 28, 29] (by decide +kernel) (by decide +kernel)
set_option maxRecDepth 20000 in
theorem gX5_readOrder_X5_readSign : GoodIn wsX5_readOrder (wsV RX5 42 RX5 yX5_readSign wsX5_readSign) := goodIn_app (goodIn_of _ (by decide +kernel)) ggX5_readOrder_X5_readSign
theorem dX5_readOrder_0 : decode cX5_readOrder 0 = .ok (.aload_n 0, 1) := by decide +kernel
theorem dX5_readOrder_1 : decode cX5_readOrder 1 = .ok (.iload_n 1, 1) := by decide +kernel
theorem dX5_readOrder_2 : decode cX5_readOrder 2 = .ok (.putfield 27, 3) := by decide +kernel
theorem dX5_readOrder_5 : decode cX5_readOrder 5 = .ok (.aload_n 0, 1) := by decide +kernel
theorem dX5_readOrder_6 : decode cX5_readOrder 6 = .ok (.aload_n 0, 1) := by decide +kernel
theorem dX5_readOrder_7 : decode cX5_readOrder 7 = .ok (.iload_n 1, 1) := by decide +kernel
theorem dX5_readOrder_8 : decode cX5_readOrder 8 = .ok (.invokevirtual 30, 3) := by decide +kernel
theorem dX5_readOrder_11 : decode cX5_readOrder 11 = .ok (.putfield 19, 3) := by decide +kernel
theorem dX5_readOrder_14 : decode cX5_readOrder 14 = .ok (.aload_n 0, 1) := by decide +kernel
theorem dX5_readOrder_15 : decode cX5_readOrder 15 = .ok (.getfield 19, 3) := by decide +kernel
theorem dX5_readOrder_18 : decode cX5_readOrder 18 = .ok (.invokestatic 34, 3) := by decide +kernel
theorem dX5_readOrder_21 : decode cX5_readOrder 21 = .ok (.istore_n 2, 1) := by decide +kernel
theorem dX5_readOrder_22 : decode cX5_readOrder 22 = .ok (.iload_n 2, 1) := by decide +kernel
theorem dX5_readOrder_23 : decode cX5_readOrder 23 = .ok (.ifCond .ne 5, 3) := by decide +kernel
theorem dX5_readOrder_26 : decode cX5_readOrder 26 = .ok (.iconst 0, 1) := by decide +kernel
theorem dX5_readOrder_27 : decode cX5_readOrder 27 = .ok (.ireturn, 1) := by decide +kernel
theorem dX5_readOrder_28 : decode cX5_readOrder 28 = .ok (.aload_n 0, 1) := by decide +kernel
theorem dX5_readOrder_29 : decode cX5_readOrder 29 = .ok (.dup, 1) := by decide +kernel
theorem dX5_readOrder_30 : decode cX5_readOrder 30 = .ok (.getfield 27, 3) := by decide +kernel
theorem dX5_readOrder_33 : decode cX5_readOrder 33 = .ok (.iconst 1, 1) := by decide +kernel
theorem dX5_readOrder_34 : decode cX5_readOrder 34 = .ok (.iadd, 1) := by decide +kernel
theorem dX5_readOrder_35 : decode cX5_readOrder 35 = .ok (.putfield 27, 3) := by decide +kernel
theorem dX5_readOrder_38 : decode cX5_readOrder 38 = .ok (.iconst 0, 1) := by decide +kernel
theorem dX5_readOrder_39 : decode cX5_readOrder 39 = .ok (.istore_n 3, 1) := by decide +kernel
theorem dX5_readOrder_40 : decode cX5_readOrder 40 = .ok (.iload_n 3, 1) := by decide +kernel
theorem dX5_readOrder_41 : decode cX5_readOrder 41 = .ok (.iload_n 2, 1) := by decide +kernel
theorem dX5_readOrder_42 : decode cX5_readOrder 42 = .ok (.if_icmp .ge 45, 3) := by decide +kernel
theorem dX5_readOrder_45 : decode cX5_readOrder 45 = .ok (.iload_n 3, 1) := by decide +kernel
theorem dX5_readOrder_46 : decode cX5_readOrder 46 = .ok (.iconst 3, 1) := by decide +kernel
theorem dX5_readOrder_47 : decode cX5_readOrder 47 = .ok (.if_icmp .ge 40, 3) := by decide +kernel
theorem dX5_readOrder_50 : decode cX5_readOrder 50 = .ok (.aload_n 0, 1) := by decide +kernel
theorem dX5_readOrder_51 : decode cX5_readOrder 51 = .ok (.iload_n 3, 1) := by decide +kernel
theorem dX5_readOrder_52 : decode cX5_readOrder 52 = .ok (.invokevirtual 38, 3) := by decide +kernel
theorem dX5_readOrder_55 : decode cX5_readOrder 55 = .ok (.ifCond .eq 24, 3) := by decide +kernel
theorem dX5_readOrder_58 : decode cX5_readOrder 58 = .ok (.aload_n 0, 1) := by decide +kernel
theorem dX5_readOrder_59 : decode cX5_readOrder 59 = .ok (.iload_n 3, 1) := by decide +kernel
theorem dX5_readOrder_60 : decode cX5_readOrder 60 = .ok (.iload_n 2, 1) := by decide +kernel
theorem dX5_readOrder_61 : decode cX5_readOrder 61 = .ok (.iconst 1, 1) := by decide +kernel
theorem dX5_readOrder_62 : decode cX5_readOrder 62 = .ok (.isub, 1) := by decide +kernel
theorem dX5_readOrder_63 : decode cX5_readOrder 63 = .ok (.if_icmp .ne 8, 3) := by decide +kernel
theorem dX5_readOrder_66 : decode cX5_readOrder 66 = .ok (.bipush 59, 2) := by decide +kernel
theorem dX5_readOrder_68 : decode cX5_readOrder 68 = .ok (.goto 5, 3) := by decide +kernel
theorem dX5_readOrder_71 : decode cX5_readOrder 71 = .ok (.bipush 44, 2) := by decide +kernel
theorem dX5_readOrder_73 : decode cX5_readOrder 73 = .ok (.invokevirtual 42, 3) := by decide +kernel
theorem dX5_readOrder_76 : decode cX5_readOrder 76 = .ok (.ifCond .ne 5, 3) := by decide +kernel
theorem dX5_readOrder_79 : decode cX5_readOrder 79 = .ok (.iconst 0, 1) := by decide +kernel
theorem dX5_readOrder_80 : decode cX5_readOrder 80 = .ok (.ireturn, 1) := by decide +kernel
theorem dX5_readOrder_81 : decode cX5_readOrder 81 = .ok (.iinc 3 1, 3) := by decide +kernel
theorem dX5_readOrder_84 : decode cX5_readOrder 84 = .ok (.goto (-44), 3) := by decide +kernel
theorem dX5_readOrder_87 : decode cX5_readOrder 87 = .ok (.iconst 1, 1) := by decide +kernel
theorem dX5_readOrder_88 : decode cX5_readOrder 88 = .ok (.ireturn, 1) := by decide +kernel
theorem dX5_numbersOf_0 : decode cX5_numbersOf 0 = .ok (.iload_n 0, 1) := by decide +kernel
theorem dX5_numbersOf_1 : decode cX5_numbersOf 1 = .ok (.lookupswitch 57 #[(100, 55), (108, 53), (115, 53), (117, 55), (120, 51)], 51) := by decide +kernel
theorem dX5_numbersOf_52 : decode cX5_numbersOf 52 = .ok (.iconst 1, 1) := by decide +kernel
theorem dX5_numbersOf_53 : decode cX5_numbersOf 53 = .ok (.ireturn, 1) := by decide +kernel
theorem dX5_numbersOf_54 : decode cX5_numbersOf 54 = .ok (.iconst 2, 1) := by decide +kernel
theorem dX5_numbersOf_55 : decode cX5_numbersOf 55 = .ok (.ireturn, 1) := by decide +kernel
theorem dX5_numbersOf_56 : decode cX5_numbersOf 56 = .ok (.iconst 3, 1) := by decide +kernel
theorem dX5_numbersOf_57 : decode cX5_numbersOf 57 = .ok (.ireturn, 1) := by decide +kernel
theorem dX5_numbersOf_58 : decode cX5_numbersOf 58 = .ok (.iconst 0, 1) := by decide +kernel
theorem dX5_numbersOf_59 : decode cX5_numbersOf 59 = .ok (.ireturn, 1) := by decide +kernel
set_option maxRecDepth 20000 in
theorem ggX5_readNumber_X5_signAt : GoodIn wsX5_readNumber wsX5_signAt := goodIn_r _ [7, 8, 9, 13, 14, 15, 16, 17] (by decide +kernel) (by decide +kernel)
set_option maxRecDepth 20000 in
theorem gX5_readNumber_X5_signAt : GoodIn wsX5_readNumber (wsV RX5 30 RX5 yX5_signAt wsX5_signAt) := goodIn_app (goodIn_of _ (by decide +kernel)) ggX5_readNumber_X5_signAt
set_option maxRecDepth 20000 in
theorem ggX5_readNumber_X6_within : GoodIn wsX5_readNumber wsX6_within := goodIn_r _ [12] (by decide +kernel) (by decide +kernel)
set_option maxRecDepth 20000 in
theorem gX5_readNumber_X6_within_n46 : GoodIn wsX5_readNumber (wsX6_within) := ggX5_readNumber_X6_within
theorem dX5_readNumber_0 : decode cX5_readNumber 0 = .ok (.iload_n 1, 1) := by decide +kernel
theorem dX5_readNumber_1 : decode cX5_readNumber 1 = .ok (.ifCond .lt 8, 3) := by decide +kernel
theorem dX5_readNumber_4 : decode cX5_readNumber 4 = .ok (.iload_n 1, 1) := by decide +kernel
theorem dX5_readNumber_5 : decode cX5_readNumber 5 = .ok (.iconst 3, 1) := by decide +kernel
theorem dX5_readNumber_6 : decode cX5_readNumber 6 = .ok (.if_icmp .lt 5, 3) := by decide +kernel
theorem dX5_readNumber_9 : decode cX5_readNumber 9 = .ok (.iconst 0, 1) := by decide +kernel
theorem dX5_readNumber_10 : decode cX5_readNumber 10 = .ok (.ireturn, 1) := by decide +kernel
theorem dX5_readNumber_11 : decode cX5_readNumber 11 = .ok (.iconst 0, 1) := by decide +kernel
theorem dX5_readNumber_12 : decode cX5_readNumber 12 = .ok (.istore_n 2, 1) := by decide +kernel
theorem dX5_readNumber_13 : decode cX5_readNumber 13 = .ok (.iconst 0, 1) := by decide +kernel
theorem dX5_readNumber_14 : decode cX5_readNumber 14 = .ok (.istore_n 3, 1) := by decide +kernel
theorem dX5_readNumber_15 : decode cX5_readNumber 15 = .ok (.iload_n 2, 1) := by decide +kernel
theorem dX5_readNumber_16 : decode cX5_readNumber 16 = .ok (.iconst 4, 1) := by decide +kernel
theorem dX5_readNumber_17 : decode cX5_readNumber 17 = .ok (.if_icmp .ge 54, 3) := by decide +kernel
theorem dX5_readNumber_20 : decode cX5_readNumber 20 = .ok (.aload_n 0, 1) := by decide +kernel
theorem dX5_readNumber_21 : decode cX5_readNumber 21 = .ok (.aload_n 0, 1) := by decide +kernel
theorem dX5_readNumber_22 : decode cX5_readNumber 22 = .ok (.getfield 27, 3) := by decide +kernel
theorem dX5_readNumber_25 : decode cX5_readNumber 25 = .ok (.invokevirtual 30, 3) := by decide +kernel
theorem dX5_readNumber_28 : decode cX5_readNumber 28 = .ok (.bipush 48, 2) := by decide +kernel
theorem dX5_readNumber_30 : decode cX5_readNumber 30 = .ok (.bipush 57, 2) := by decide +kernel
theorem dX5_readNumber_32 : decode cX5_readNumber 32 = .ok (.invokestatic 46, 3) := by decide +kernel
theorem dX5_readNumber_35 : decode cX5_readNumber 35 = .ok (.ifCond .eq 36, 3) := by decide +kernel
theorem dX5_readNumber_38 : decode cX5_readNumber 38 = .ok (.iload_n 3, 1) := by decide +kernel
theorem dX5_readNumber_39 : decode cX5_readNumber 39 = .ok (.bipush 10, 2) := by decide +kernel
theorem dX5_readNumber_41 : decode cX5_readNumber 41 = .ok (.imul, 1) := by decide +kernel
theorem dX5_readNumber_42 : decode cX5_readNumber 42 = .ok (.aload_n 0, 1) := by decide +kernel
theorem dX5_readNumber_43 : decode cX5_readNumber 43 = .ok (.aload_n 0, 1) := by decide +kernel
theorem dX5_readNumber_44 : decode cX5_readNumber 44 = .ok (.getfield 27, 3) := by decide +kernel
theorem dX5_readNumber_47 : decode cX5_readNumber 47 = .ok (.invokevirtual 30, 3) := by decide +kernel
theorem dX5_readNumber_50 : decode cX5_readNumber 50 = .ok (.iadd, 1) := by decide +kernel
theorem dX5_readNumber_51 : decode cX5_readNumber 51 = .ok (.bipush 48, 2) := by decide +kernel
theorem dX5_readNumber_53 : decode cX5_readNumber 53 = .ok (.isub, 1) := by decide +kernel
theorem dX5_readNumber_54 : decode cX5_readNumber 54 = .ok (.istore_n 3, 1) := by decide +kernel
theorem dX5_readNumber_55 : decode cX5_readNumber 55 = .ok (.iinc 2 1, 3) := by decide +kernel
theorem dX5_readNumber_58 : decode cX5_readNumber 58 = .ok (.aload_n 0, 1) := by decide +kernel
theorem dX5_readNumber_59 : decode cX5_readNumber 59 = .ok (.dup, 1) := by decide +kernel
theorem dX5_readNumber_60 : decode cX5_readNumber 60 = .ok (.getfield 27, 3) := by decide +kernel
theorem dX5_readNumber_63 : decode cX5_readNumber 63 = .ok (.iconst 1, 1) := by decide +kernel
theorem dX5_readNumber_64 : decode cX5_readNumber 64 = .ok (.iadd, 1) := by decide +kernel
theorem dX5_readNumber_65 : decode cX5_readNumber 65 = .ok (.putfield 27, 3) := by decide +kernel
theorem dX5_readNumber_68 : decode cX5_readNumber 68 = .ok (.goto (-53), 3) := by decide +kernel
theorem dX5_readNumber_71 : decode cX5_readNumber 71 = .ok (.aload_n 0, 1) := by decide +kernel
theorem dX5_readNumber_72 : decode cX5_readNumber 72 = .ok (.getfield 23, 3) := by decide +kernel
theorem dX5_readNumber_75 : decode cX5_readNumber 75 = .ok (.iload_n 1, 1) := by decide +kernel
theorem dX5_readNumber_76 : decode cX5_readNumber 76 = .ok (.iload_n 3, 1) := by decide +kernel
theorem dX5_readNumber_77 : decode cX5_readNumber 77 = .ok (.iastore, 1) := by decide +kernel
theorem dX5_readNumber_78 : decode cX5_readNumber 78 = .ok (.iload_n 2, 1) := by decide +kernel
theorem dX5_readNumber_79 : decode cX5_readNumber 79 = .ok (.ifCond .le 7, 3) := by decide +kernel
theorem dX5_readNumber_82 : decode cX5_readNumber 82 = .ok (.iconst 1, 1) := by decide +kernel
theorem dX5_readNumber_83 : decode cX5_readNumber 83 = .ok (.goto 4, 3) := by decide +kernel
theorem dX5_readNumber_86 : decode cX5_readNumber 86 = .ok (.iconst 0, 1) := by decide +kernel
theorem dX5_readNumber_87 : decode cX5_readNumber 87 = .ok (.ireturn, 1) := by decide +kernel
set_option maxRecDepth 20000 in
theorem ggX5_readSign_X5_signAt : GoodIn wsX5_readSign wsX5_signAt := goodIn_r _ [6, 7, 8, 9, 10, 11, 12, 13] (by decide +kernel) (by decide +kernel)
set_option maxRecDepth 20000 in
theorem gX5_readSign_X5_signAt : GoodIn wsX5_readSign (wsV RX5 30 RX5 yX5_signAt wsX5_signAt) := goodIn_app (goodIn_of _ (by decide +kernel)) ggX5_readSign_X5_signAt
theorem dX5_readSign_0 : decode cX5_readSign 0 = .ok (.aload_n 0, 1) := by decide +kernel
theorem dX5_readSign_1 : decode cX5_readSign 1 = .ok (.aload_n 0, 1) := by decide +kernel
theorem dX5_readSign_2 : decode cX5_readSign 2 = .ok (.getfield 27, 3) := by decide +kernel
theorem dX5_readSign_5 : decode cX5_readSign 5 = .ok (.invokevirtual 30, 3) := by decide +kernel
theorem dX5_readSign_8 : decode cX5_readSign 8 = .ok (.iload_n 1, 1) := by decide +kernel
theorem dX5_readSign_9 : decode cX5_readSign 9 = .ok (.if_icmp .eq 5, 3) := by decide +kernel
theorem dX5_readSign_12 : decode cX5_readSign 12 = .ok (.iconst 0, 1) := by decide +kernel
theorem dX5_readSign_13 : decode cX5_readSign 13 = .ok (.ireturn, 1) := by decide +kernel
theorem dX5_readSign_14 : decode cX5_readSign 14 = .ok (.aload_n 0, 1) := by decide +kernel
theorem dX5_readSign_15 : decode cX5_readSign 15 = .ok (.dup, 1) := by decide +kernel
theorem dX5_readSign_16 : decode cX5_readSign 16 = .ok (.getfield 27, 3) := by decide +kernel
theorem dX5_readSign_19 : decode cX5_readSign 19 = .ok (.iconst 1, 1) := by decide +kernel
theorem dX5_readSign_20 : decode cX5_readSign 20 = .ok (.iadd, 1) := by decide +kernel
theorem dX5_readSign_21 : decode cX5_readSign 21 = .ok (.putfield 27, 3) := by decide +kernel
theorem dX5_readSign_24 : decode cX5_readSign 24 = .ok (.iconst 1, 1) := by decide +kernel
theorem dX5_readSign_25 : decode cX5_readSign 25 = .ok (.ireturn, 1) := by decide +kernel
theorem dX6_within_0 : decode cX6_within 0 = .ok (.iload_n 0, 1) := by decide +kernel
theorem dX6_within_1 : decode cX6_within 1 = .ok (.iload_n 1, 1) := by decide +kernel
theorem dX6_within_2 : decode cX6_within 2 = .ok (.if_icmp .lt 12, 3) := by decide +kernel
theorem dX6_within_5 : decode cX6_within 5 = .ok (.iload_n 0, 1) := by decide +kernel
theorem dX6_within_6 : decode cX6_within 6 = .ok (.iload_n 2, 1) := by decide +kernel
theorem dX6_within_7 : decode cX6_within 7 = .ok (.if_icmp .gt 7, 3) := by decide +kernel
theorem dX6_within_10 : decode cX6_within 10 = .ok (.iconst 1, 1) := by decide +kernel
theorem dX6_within_11 : decode cX6_within 11 = .ok (.goto 4, 3) := by decide +kernel
theorem dX6_within_14 : decode cX6_within 14 = .ok (.iconst 0, 1) := by decide +kernel
theorem dX6_within_15 : decode cX6_within 15 = .ok (.ireturn, 1) := by decide +kernel
set_option maxRecDepth 20000 in
theorem ggX6_bendingOf_J9_floorDiv_7cf53 : GoodIn wsX6_bendingOf wsJ9_floorDiv_7cf53 := goodIn_r _ [4] (by decide +kernel) (by decide +kernel)
set_option maxRecDepth 20000 in
theorem gX6_bendingOf_J9_floorDiv_7cf53 : GoodIn wsX6_bendingOf (va_wsS RX6 258 yJ9_floorDiv_7cf53 wsJ9_floorDiv_7cf53) := goodIn_app (goodIn_of _ (by decide +kernel)) ggX6_bendingOf_J9_floorDiv_7cf53
theorem dX6_bendingOf_0 : decode cX6_bendingOf 0 = .ok (.sipush 780, 3) := by decide +kernel
theorem dX6_bendingOf_3 : decode cX6_bendingOf 3 = .ok (.iload_n 1, 1) := by decide +kernel
theorem dX6_bendingOf_4 : decode cX6_bendingOf 4 = .ok (.isub, 1) := by decide +kernel
theorem dX6_bendingOf_5 : decode cX6_bendingOf 5 = .ok (.istore_n 2, 1) := by decide +kernel
theorem dX6_bendingOf_6 : decode cX6_bendingOf 6 = .ok (.iload_n 0, 1) := by decide +kernel
theorem dX6_bendingOf_7 : decode cX6_bendingOf 7 = .ok (.ifCond .ne 16, 3) := by decide +kernel
theorem dX6_bendingOf_10 : decode cX6_bendingOf 10 = .ok (.sipush 500, 3) := by decide +kernel
theorem dX6_bendingOf_13 : decode cX6_bendingOf 13 = .ok (.iload_n 2, 1) := by decide +kernel
theorem dX6_bendingOf_14 : decode cX6_bendingOf 14 = .ok (.bipush 8, 2) := by decide +kernel
theorem dX6_bendingOf_16 : decode cX6_bendingOf 16 = .ok (.invokestatic 258, 3) := by decide +kernel
theorem dX6_bendingOf_19 : decode cX6_bendingOf 19 = .ok (.iadd, 1) := by decide +kernel
theorem dX6_bendingOf_20 : decode cX6_bendingOf 20 = .ok (.goto 12, 3) := by decide +kernel
theorem dX6_bendingOf_23 : decode cX6_bendingOf 23 = .ok (.sipush 600, 3) := by decide +kernel
theorem dX6_bendingOf_26 : decode cX6_bendingOf 26 = .ok (.iload_n 2, 1) := by decide +kernel
theorem dX6_bendingOf_27 : decode cX6_bendingOf 27 = .ok (.iconst 3, 1) := by decide +kernel
theorem dX6_bendingOf_28 : decode cX6_bendingOf 28 = .ok (.invokestatic 258, 3) := by decide +kernel
theorem dX6_bendingOf_31 : decode cX6_bendingOf 31 = .ok (.iadd, 1) := by decide +kernel
theorem dX6_bendingOf_32 : decode cX6_bendingOf 32 = .ok (.ireturn, 1) := by decide +kernel
theorem dJxf58ca_isNaN_12338_0 : decode cJxf58ca_isNaN_12338 0 = .ok (.fload_n 0, 1) := by decide +kernel
theorem dJxf58ca_isNaN_12338_1 : decode cJxf58ca_isNaN_12338 1 = .ok (.fload_n 0, 1) := by decide +kernel
theorem dJxf58ca_isNaN_12338_2 : decode cJxf58ca_isNaN_12338 2 = .ok (.fcmp .l, 1) := by decide +kernel
theorem dJxf58ca_isNaN_12338_3 : decode cJxf58ca_isNaN_12338 3 = .ok (.ifCond .eq 7, 3) := by decide +kernel
theorem dJxf58ca_isNaN_12338_6 : decode cJxf58ca_isNaN_12338 6 = .ok (.iconst 1, 1) := by decide +kernel
theorem dJxf58ca_isNaN_12338_7 : decode cJxf58ca_isNaN_12338 7 = .ok (.goto 4, 3) := by decide +kernel
theorem dJxf58ca_isNaN_12338_10 : decode cJxf58ca_isNaN_12338 10 = .ok (.iconst 0, 1) := by decide +kernel
theorem dJxf58ca_isNaN_12338_11 : decode cJxf58ca_isNaN_12338 11 = .ok (.ireturn, 1) := by decide +kernel
set_option maxRecDepth 20000 in
theorem ggJxf58ca_floatToIntBits_5c35a_Jxf58ca_isNaN_12338 : GoodIn wsJxf58ca_floatToIntBits_5c35a wsJxf58ca_isNaN_12338 := goodIn_r _ [9] (by decide +kernel) (by decide +kernel)
set_option maxRecDepth 20000 in
theorem gJxf58ca_floatToIntBits_5c35a_Jxf58ca_isNaN_12338 : GoodIn wsJxf58ca_floatToIntBits_5c35a (va_wsS RJxf58ca 59 yJxf58ca_isNaN_12338 wsJxf58ca_isNaN_12338) := goodIn_app (goodIn_of _ (by decide +kernel)) ggJxf58ca_floatToIntBits_5c35a_Jxf58ca_isNaN_12338
theorem dJxf58ca_floatToIntBits_5c35a_0 : decode cJxf58ca_floatToIntBits_5c35a 0 = .ok (.fload_n 0, 1) := by decide +kernel
theorem dJxf58ca_floatToIntBits_5c35a_1 : decode cJxf58ca_floatToIntBits_5c35a 1 = .ok (.invokestatic 59, 3) := by decide +kernel
theorem dJxf58ca_floatToIntBits_5c35a_4 : decode cJxf58ca_floatToIntBits_5c35a 4 = .ok (.ifCond .ne 8, 3) := by decide +kernel
theorem dJxf58ca_floatToIntBits_5c35a_7 : decode cJxf58ca_floatToIntBits_5c35a 7 = .ok (.fload_n 0, 1) := by decide +kernel
theorem dJxf58ca_floatToIntBits_5c35a_8 : decode cJxf58ca_floatToIntBits_5c35a 8 = .ok (.invokestatic 74, 3) := by decide +kernel
theorem dJxf58ca_floatToIntBits_5c35a_11 : decode cJxf58ca_floatToIntBits_5c35a 11 = .ok (.ireturn, 1) := by decide +kernel
theorem dJxf58ca_floatToIntBits_5c35a_12 : decode cJxf58ca_floatToIntBits_5c35a 12 = .ok (.ldc 77, 2) := by decide +kernel
theorem dJxf58ca_floatToIntBits_5c35a_14 : decode cJxf58ca_floatToIntBits_5c35a 14 = .ok (.ireturn, 1) := by decide +kernel
theorem dJ6_bitCount_0f7a4_0 : decode cJ6_bitCount_0f7a4 0 = .ok (.iload_n 0, 1) := by decide +kernel
theorem dJ6_bitCount_0f7a4_1 : decode cJ6_bitCount_0f7a4 1 = .ok (.iload_n 0, 1) := by decide +kernel
theorem dJ6_bitCount_0f7a4_2 : decode cJ6_bitCount_0f7a4 2 = .ok (.iconst 1, 1) := by decide +kernel
theorem dJ6_bitCount_0f7a4_3 : decode cJ6_bitCount_0f7a4 3 = .ok (.iushr, 1) := by decide +kernel
theorem dJ6_bitCount_0f7a4_4 : decode cJ6_bitCount_0f7a4 4 = .ok (.ldc_w 265, 3) := by decide +kernel
theorem dJ6_bitCount_0f7a4_7 : decode cJ6_bitCount_0f7a4 7 = .ok (.iand, 1) := by decide +kernel
theorem dJ6_bitCount_0f7a4_8 : decode cJ6_bitCount_0f7a4 8 = .ok (.isub, 1) := by decide +kernel
theorem dJ6_bitCount_0f7a4_9 : decode cJ6_bitCount_0f7a4 9 = .ok (.istore_n 0, 1) := by decide +kernel
theorem dJ6_bitCount_0f7a4_10 : decode cJ6_bitCount_0f7a4 10 = .ok (.iload_n 0, 1) := by decide +kernel
theorem dJ6_bitCount_0f7a4_11 : decode cJ6_bitCount_0f7a4 11 = .ok (.ldc_w 266, 3) := by decide +kernel
theorem dJ6_bitCount_0f7a4_14 : decode cJ6_bitCount_0f7a4 14 = .ok (.iand, 1) := by decide +kernel
theorem dJ6_bitCount_0f7a4_15 : decode cJ6_bitCount_0f7a4 15 = .ok (.iload_n 0, 1) := by decide +kernel
theorem dJ6_bitCount_0f7a4_16 : decode cJ6_bitCount_0f7a4 16 = .ok (.iconst 2, 1) := by decide +kernel
theorem dJ6_bitCount_0f7a4_17 : decode cJ6_bitCount_0f7a4 17 = .ok (.iushr, 1) := by decide +kernel
theorem dJ6_bitCount_0f7a4_18 : decode cJ6_bitCount_0f7a4 18 = .ok (.ldc_w 266, 3) := by decide +kernel
theorem dJ6_bitCount_0f7a4_21 : decode cJ6_bitCount_0f7a4 21 = .ok (.iand, 1) := by decide +kernel
theorem dJ6_bitCount_0f7a4_22 : decode cJ6_bitCount_0f7a4 22 = .ok (.iadd, 1) := by decide +kernel
theorem dJ6_bitCount_0f7a4_23 : decode cJ6_bitCount_0f7a4 23 = .ok (.istore_n 0, 1) := by decide +kernel
theorem dJ6_bitCount_0f7a4_24 : decode cJ6_bitCount_0f7a4 24 = .ok (.iload_n 0, 1) := by decide +kernel
theorem dJ6_bitCount_0f7a4_25 : decode cJ6_bitCount_0f7a4 25 = .ok (.iload_n 0, 1) := by decide +kernel
theorem dJ6_bitCount_0f7a4_26 : decode cJ6_bitCount_0f7a4 26 = .ok (.iconst 4, 1) := by decide +kernel
theorem dJ6_bitCount_0f7a4_27 : decode cJ6_bitCount_0f7a4 27 = .ok (.iushr, 1) := by decide +kernel
theorem dJ6_bitCount_0f7a4_28 : decode cJ6_bitCount_0f7a4 28 = .ok (.iadd, 1) := by decide +kernel
theorem dJ6_bitCount_0f7a4_29 : decode cJ6_bitCount_0f7a4 29 = .ok (.ldc_w 267, 3) := by decide +kernel
theorem dJ6_bitCount_0f7a4_32 : decode cJ6_bitCount_0f7a4 32 = .ok (.iand, 1) := by decide +kernel
theorem dJ6_bitCount_0f7a4_33 : decode cJ6_bitCount_0f7a4 33 = .ok (.istore_n 0, 1) := by decide +kernel
theorem dJ6_bitCount_0f7a4_34 : decode cJ6_bitCount_0f7a4 34 = .ok (.iload_n 0, 1) := by decide +kernel
theorem dJ6_bitCount_0f7a4_35 : decode cJ6_bitCount_0f7a4 35 = .ok (.iload_n 0, 1) := by decide +kernel
theorem dJ6_bitCount_0f7a4_36 : decode cJ6_bitCount_0f7a4 36 = .ok (.bipush 8, 2) := by decide +kernel
theorem dJ6_bitCount_0f7a4_38 : decode cJ6_bitCount_0f7a4 38 = .ok (.iushr, 1) := by decide +kernel
theorem dJ6_bitCount_0f7a4_39 : decode cJ6_bitCount_0f7a4 39 = .ok (.iadd, 1) := by decide +kernel
theorem dJ6_bitCount_0f7a4_40 : decode cJ6_bitCount_0f7a4 40 = .ok (.istore_n 0, 1) := by decide +kernel
theorem dJ6_bitCount_0f7a4_41 : decode cJ6_bitCount_0f7a4 41 = .ok (.iload_n 0, 1) := by decide +kernel
theorem dJ6_bitCount_0f7a4_42 : decode cJ6_bitCount_0f7a4 42 = .ok (.iload_n 0, 1) := by decide +kernel
theorem dJ6_bitCount_0f7a4_43 : decode cJ6_bitCount_0f7a4 43 = .ok (.bipush 16, 2) := by decide +kernel
theorem dJ6_bitCount_0f7a4_45 : decode cJ6_bitCount_0f7a4 45 = .ok (.iushr, 1) := by decide +kernel
theorem dJ6_bitCount_0f7a4_46 : decode cJ6_bitCount_0f7a4 46 = .ok (.iadd, 1) := by decide +kernel
theorem dJ6_bitCount_0f7a4_47 : decode cJ6_bitCount_0f7a4 47 = .ok (.istore_n 0, 1) := by decide +kernel
theorem dJ6_bitCount_0f7a4_48 : decode cJ6_bitCount_0f7a4 48 = .ok (.iload_n 0, 1) := by decide +kernel
theorem dJ6_bitCount_0f7a4_49 : decode cJ6_bitCount_0f7a4 49 = .ok (.bipush 63, 2) := by decide +kernel
theorem dJ6_bitCount_0f7a4_51 : decode cJ6_bitCount_0f7a4 51 = .ok (.iand, 1) := by decide +kernel
theorem dJ6_bitCount_0f7a4_52 : decode cJ6_bitCount_0f7a4 52 = .ok (.ireturn, 1) := by decide +kernel
theorem dJ9_floorDiv_7cf53_0 : decode cJ9_floorDiv_7cf53 0 = .ok (.iload_n 0, 1) := by decide +kernel
theorem dJ9_floorDiv_7cf53_1 : decode cJ9_floorDiv_7cf53 1 = .ok (.iload_n 1, 1) := by decide +kernel
theorem dJ9_floorDiv_7cf53_2 : decode cJ9_floorDiv_7cf53 2 = .ok (.idiv, 1) := by decide +kernel
theorem dJ9_floorDiv_7cf53_3 : decode cJ9_floorDiv_7cf53 3 = .ok (.istore_n 2, 1) := by decide +kernel
theorem dJ9_floorDiv_7cf53_4 : decode cJ9_floorDiv_7cf53 4 = .ok (.iload_n 0, 1) := by decide +kernel
theorem dJ9_floorDiv_7cf53_5 : decode cJ9_floorDiv_7cf53 5 = .ok (.iload_n 1, 1) := by decide +kernel
theorem dJ9_floorDiv_7cf53_6 : decode cJ9_floorDiv_7cf53 6 = .ok (.ixor, 1) := by decide +kernel
theorem dJ9_floorDiv_7cf53_7 : decode cJ9_floorDiv_7cf53 7 = .ok (.ifCond .ge 14, 3) := by decide +kernel
theorem dJ9_floorDiv_7cf53_10 : decode cJ9_floorDiv_7cf53 10 = .ok (.iload_n 2, 1) := by decide +kernel
theorem dJ9_floorDiv_7cf53_11 : decode cJ9_floorDiv_7cf53 11 = .ok (.iload_n 1, 1) := by decide +kernel
theorem dJ9_floorDiv_7cf53_12 : decode cJ9_floorDiv_7cf53 12 = .ok (.imul, 1) := by decide +kernel
theorem dJ9_floorDiv_7cf53_13 : decode cJ9_floorDiv_7cf53 13 = .ok (.iload_n 0, 1) := by decide +kernel
theorem dJ9_floorDiv_7cf53_14 : decode cJ9_floorDiv_7cf53 14 = .ok (.if_icmp .eq 7, 3) := by decide +kernel
theorem dJ9_floorDiv_7cf53_17 : decode cJ9_floorDiv_7cf53 17 = .ok (.iload_n 2, 1) := by decide +kernel
theorem dJ9_floorDiv_7cf53_18 : decode cJ9_floorDiv_7cf53 18 = .ok (.iconst 1, 1) := by decide +kernel
theorem dJ9_floorDiv_7cf53_19 : decode cJ9_floorDiv_7cf53 19 = .ok (.isub, 1) := by decide +kernel
theorem dJ9_floorDiv_7cf53_20 : decode cJ9_floorDiv_7cf53 20 = .ok (.ireturn, 1) := by decide +kernel
theorem dJ9_floorDiv_7cf53_21 : decode cJ9_floorDiv_7cf53 21 = .ok (.iload_n 2, 1) := by decide +kernel
theorem dJ9_floorDiv_7cf53_22 : decode cJ9_floorDiv_7cf53 22 = .ok (.ireturn, 1) := by decide +kernel
theorem dJ9_max_7cf53_0 : decode cJ9_max_7cf53 0 = .ok (.iload_n 0, 1) := by decide +kernel
theorem dJ9_max_7cf53_1 : decode cJ9_max_7cf53 1 = .ok (.iload_n 1, 1) := by decide +kernel
theorem dJ9_max_7cf53_2 : decode cJ9_max_7cf53 2 = .ok (.if_icmp .lt 7, 3) := by decide +kernel
theorem dJ9_max_7cf53_5 : decode cJ9_max_7cf53 5 = .ok (.iload_n 0, 1) := by decide +kernel
theorem dJ9_max_7cf53_6 : decode cJ9_max_7cf53 6 = .ok (.goto 4, 3) := by decide +kernel
theorem dJ9_max_7cf53_9 : decode cJ9_max_7cf53 9 = .ok (.iload_n 1, 1) := by decide +kernel
theorem dJ9_max_7cf53_10 : decode cJ9_max_7cf53 10 = .ok (.ireturn, 1) := by decide +kernel
theorem dJ9_min_7cf53_0 : decode cJ9_min_7cf53 0 = .ok (.iload_n 0, 1) := by decide +kernel
theorem dJ9_min_7cf53_1 : decode cJ9_min_7cf53 1 = .ok (.iload_n 1, 1) := by decide +kernel
theorem dJ9_min_7cf53_2 : decode cJ9_min_7cf53 2 = .ok (.if_icmp .gt 7, 3) := by decide +kernel
theorem dJ9_min_7cf53_5 : decode cJ9_min_7cf53 5 = .ok (.iload_n 0, 1) := by decide +kernel
theorem dJ9_min_7cf53_6 : decode cJ9_min_7cf53 6 = .ok (.goto 4, 3) := by decide +kernel
theorem dJ9_min_7cf53_9 : decode cJ9_min_7cf53 9 = .ok (.iload_n 1, 1) := by decide +kernel
theorem dJ9_min_7cf53_10 : decode cJ9_min_7cf53 10 = .ok (.ireturn, 1) := by decide +kernel
end
