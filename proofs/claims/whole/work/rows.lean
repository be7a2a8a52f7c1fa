section
/-- a private method of a class that the tables say can be made, by its rows of tables_1 -/
def lw_okq (q : MethodName × Nat) : Prop := (q.1.cls ≠ "java/lang/invoke/MethodHandle" ∧ q.1.cls ≠ "java/lang/invoke/VarHandle") ∧ Cond.instantiable q.1.cls q.2 ∈ tables_1 ∧ Cond.privateMethod q.1 ∈ tables_1 ∧ Cond.instanceMethod q.1 ∈ tables_1
theorem lw_p0 : lw_okq (⟨"FarHold", "refuse", "(I)I"⟩, 13) := ⟨⟨by decide +kernel, by decide +kernel⟩, List.mem_of_getElem? (i := 16) (by decide +kernel), List.mem_of_getElem? (i := 162) (by decide +kernel), List.mem_of_getElem? (i := 163) (by decide +kernel)⟩
theorem lw_p1 : lw_okq (⟨"FarHold", "touch", "(I)V"⟩, 13) := ⟨⟨by decide +kernel, by decide +kernel⟩, List.mem_of_getElem? (i := 16) (by decide +kernel), List.mem_of_getElem? (i := 241) (by decide +kernel), List.mem_of_getElem? (i := 242) (by decide +kernel)⟩
theorem lw_p2 : lw_okq (⟨"FarHold", "isNear", "(LFarHold$Thing;)Z"⟩, 13) := ⟨⟨by decide +kernel, by decide +kernel⟩, List.mem_of_getElem? (i := 16) (by decide +kernel), List.mem_of_getElem? (i := 261) (by decide +kernel), List.mem_of_getElem? (i := 262) (by decide +kernel)⟩
theorem lw_p3 : lw_okq (⟨"FarHold", "addRoots", "(I)V"⟩, 13) := ⟨⟨by decide +kernel, by decide +kernel⟩, List.mem_of_getElem? (i := 16) (by decide +kernel), List.mem_of_getElem? (i := 273) (by decide +kernel), List.mem_of_getElem? (i := 274) (by decide +kernel)⟩
theorem lw_p4 : lw_okq (⟨"FarHold$Row", "cut", "(J)J"⟩, 2) := ⟨⟨by decide +kernel, by decide +kernel⟩, List.mem_of_getElem? (i := 336) (by decide +kernel), List.mem_of_getElem? (i := 372) (by decide +kernel), List.mem_of_getElem? (i := 373) (by decide +kernel)⟩
theorem lw_p5 : lw_okq (⟨"FarHold", "sendName", "(LFarHold$Thing;LFarHold$Thing;I)I"⟩, 13) := ⟨⟨by decide +kernel, by decide +kernel⟩, List.mem_of_getElem? (i := 16) (by decide +kernel), List.mem_of_getElem? (i := 426) (by decide +kernel), List.mem_of_getElem? (i := 427) (by decide +kernel)⟩
theorem lw_p6 : lw_okq (⟨"FarHold$Post", "file", "(LFarHold$Letter;)I"⟩, 2) := ⟨⟨by decide +kernel, by decide +kernel⟩, List.mem_of_getElem? (i := 39) (by decide +kernel), List.mem_of_getElem? (i := 494) (by decide +kernel), List.mem_of_getElem? (i := 495) (by decide +kernel)⟩
theorem lw_p7 : lw_okq (⟨"FarHold", "arrive", "(LFarHold$Letter;)Z"⟩, 13) := ⟨⟨by decide +kernel, by decide +kernel⟩, List.mem_of_getElem? (i := 16) (by decide +kernel), List.mem_of_getElem? (i := 535) (by decide +kernel), List.mem_of_getElem? (i := 536) (by decide +kernel)⟩
theorem lw_p8 : lw_okq (⟨"FarHold", "arriveName", "(LFarHold$Letter;)Z"⟩, 13) := ⟨⟨by decide +kernel, by decide +kernel⟩, List.mem_of_getElem? (i := 16) (by decide +kernel), List.mem_of_getElem? (i := 539) (by decide +kernel), List.mem_of_getElem? (i := 540) (by decide +kernel)⟩
theorem lw_p9 : lw_okq (⟨"FarHold", "gateWithMore", "(ILFarHold$Thing;I)LFarHold$Thing;"⟩, 13) := ⟨⟨by decide +kernel, by decide +kernel⟩, List.mem_of_getElem? (i := 16) (by decide +kernel), List.mem_of_getElem? (i := 547) (by decide +kernel), List.mem_of_getElem? (i := 548) (by decide +kernel)⟩
theorem lw_p10 : lw_okq (⟨"FarHold", "arriveMore", "(LFarHold$Letter;)Z"⟩, 13) := ⟨⟨by decide +kernel, by decide +kernel⟩, List.mem_of_getElem? (i := 16) (by decide +kernel), List.mem_of_getElem? (i := 551) (by decide +kernel), List.mem_of_getElem? (i := 552) (by decide +kernel)⟩
theorem lw_p11 : lw_okq (⟨"FarHold", "arriveGive", "(LFarHold$Letter;)Z"⟩, 13) := ⟨⟨by decide +kernel, by decide +kernel⟩, List.mem_of_getElem? (i := 16) (by decide +kernel), List.mem_of_getElem? (i := 555) (by decide +kernel), List.mem_of_getElem? (i := 556) (by decide +kernel)⟩
theorem lw_p12 : lw_okq (⟨"FarHold", "arriveHome", "(LFarHold$Letter;)Z"⟩, 13) := ⟨⟨by decide +kernel, by decide +kernel⟩, List.mem_of_getElem? (i := 16) (by decide +kernel), List.mem_of_getElem? (i := 572) (by decide +kernel), List.mem_of_getElem? (i := 573) (by decide +kernel)⟩
theorem lw_p13 : lw_okq (⟨"FarHold", "arriveStep", "(LFarHold$Letter;)Z"⟩, 13) := ⟨⟨by decide +kernel, by decide +kernel⟩, List.mem_of_getElem? (i := 16) (by decide +kernel), List.mem_of_getElem? (i := 576) (by decide +kernel), List.mem_of_getElem? (i := 577) (by decide +kernel)⟩
theorem lw_p14 : lw_okq (⟨"FarHold", "gatesToMeet", "(LFarHold$Walk;LFarHold$Thing;)I"⟩, 13) := ⟨⟨by decide +kernel, by decide +kernel⟩, List.mem_of_getElem? (i := 16) (by decide +kernel), List.mem_of_getElem? (i := 584) (by decide +kernel), List.mem_of_getElem? (i := 585) (by decide +kernel)⟩
theorem lw_p15 : lw_okq (⟨"FarHold", "countOf", "(I)I"⟩, 13) := ⟨⟨by decide +kernel, by decide +kernel⟩, List.mem_of_getElem? (i := 16) (by decide +kernel), List.mem_of_getElem? (i := 597) (by decide +kernel), List.mem_of_getElem? (i := 598) (by decide +kernel)⟩
def lw_privs_1 : List (MethodName × Nat) := [(⟨"FarHold", "refuse", "(I)I"⟩, 13), (⟨"FarHold", "touch", "(I)V"⟩, 13), (⟨"FarHold", "isNear", "(LFarHold$Thing;)Z"⟩, 13), (⟨"FarHold", "addRoots", "(I)V"⟩, 13), (⟨"FarHold$Row", "cut", "(J)J"⟩, 2), (⟨"FarHold", "sendName", "(LFarHold$Thing;LFarHold$Thing;I)I"⟩, 13), (⟨"FarHold$Post", "file", "(LFarHold$Letter;)I"⟩, 2), (⟨"FarHold", "arrive", "(LFarHold$Letter;)Z"⟩, 13), (⟨"FarHold", "arriveName", "(LFarHold$Letter;)Z"⟩, 13), (⟨"FarHold", "gateWithMore", "(ILFarHold$Thing;I)LFarHold$Thing;"⟩, 13), (⟨"FarHold", "arriveMore", "(LFarHold$Letter;)Z"⟩, 13), (⟨"FarHold", "arriveGive", "(LFarHold$Letter;)Z"⟩, 13), (⟨"FarHold", "arriveHome", "(LFarHold$Letter;)Z"⟩, 13), (⟨"FarHold", "arriveStep", "(LFarHold$Letter;)Z"⟩, 13), (⟨"FarHold", "gatesToMeet", "(LFarHold$Walk;LFarHold$Thing;)I"⟩, 13), (⟨"FarHold", "countOf", "(I)I"⟩, 13)]
theorem lw_r1 : ∀ q ∈ lw_privs_1, lw_okq q := List.forall_mem_cons.mpr ⟨lw_p0, List.forall_mem_cons.mpr ⟨lw_p1, List.forall_mem_cons.mpr ⟨lw_p2, List.forall_mem_cons.mpr ⟨lw_p3, List.forall_mem_cons.mpr ⟨lw_p4, List.forall_mem_cons.mpr ⟨lw_p5, List.forall_mem_cons.mpr ⟨lw_p6, List.forall_mem_cons.mpr ⟨lw_p7, List.forall_mem_cons.mpr ⟨lw_p8, List.forall_mem_cons.mpr ⟨lw_p9, List.forall_mem_cons.mpr ⟨lw_p10, List.forall_mem_cons.mpr ⟨lw_p11, List.forall_mem_cons.mpr ⟨lw_p12, List.forall_mem_cons.mpr ⟨lw_p13, List.forall_mem_cons.mpr ⟨lw_p14, List.forall_mem_cons.mpr ⟨lw_p15, fun _ h => absurd h List.not_mem_nil⟩⟩⟩⟩⟩⟩⟩⟩⟩⟩⟩⟩⟩⟩⟩⟩
theorem lw_p16 : lw_okq (⟨"FarHold", "meetGates", "(LFarHold$Walk;LFarHold$Thing;)V"⟩, 13) := ⟨⟨by decide +kernel, by decide +kernel⟩, List.mem_of_getElem? (i := 16) (by decide +kernel), List.mem_of_getElem? (i := 605) (by decide +kernel), List.mem_of_getElem? (i := 606) (by decide +kernel)⟩
theorem lw_p17 : lw_okq (⟨"FarHold", "arriveBack", "(LFarHold$Letter;)Z"⟩, 13) := ⟨⟨by decide +kernel, by decide +kernel⟩, List.mem_of_getElem? (i := 16) (by decide +kernel), List.mem_of_getElem? (i := 617) (by decide +kernel), List.mem_of_getElem? (i := 618) (by decide +kernel)⟩
theorem lw_p18 : lw_okq (⟨"FarHold", "endWalk", "(LFarHold$Walk;)V"⟩, 13) := ⟨⟨by decide +kernel, by decide +kernel⟩, List.mem_of_getElem? (i := 16) (by decide +kernel), List.mem_of_getElem? (i := 625) (by decide +kernel), List.mem_of_getElem? (i := 626) (by decide +kernel)⟩
theorem lw_p19 : lw_okq (⟨"FarHold", "isStartAlive", "(LFarHold$Walk;)Z"⟩, 13) := ⟨⟨by decide +kernel, by decide +kernel⟩, List.mem_of_getElem? (i := 16) (by decide +kernel), List.mem_of_getElem? (i := 633) (by decide +kernel), List.mem_of_getElem? (i := 634) (by decide +kernel)⟩
theorem lw_p20 : lw_okq (⟨"FarHold", "addLiveFromOutside", "(LFarHold$Walk;)V"⟩, 13) := ⟨⟨by decide +kernel, by decide +kernel⟩, List.mem_of_getElem? (i := 16) (by decide +kernel), List.mem_of_getElem? (i := 637) (by decide +kernel), List.mem_of_getElem? (i := 638) (by decide +kernel)⟩
theorem lw_p21 : lw_okq (⟨"FarHold", "bringAlive", "(LFarHold$Thing;)V"⟩, 13) := ⟨⟨by decide +kernel, by decide +kernel⟩, List.mem_of_getElem? (i := 16) (by decide +kernel), List.mem_of_getElem? (i := 649) (by decide +kernel), List.mem_of_getElem? (i := 650) (by decide +kernel)⟩
theorem lw_p22 : lw_okq (⟨"FarHold", "revive", "(LFarHold$Walk;LFarHold$Thing;)V"⟩, 13) := ⟨⟨by decide +kernel, by decide +kernel⟩, List.mem_of_getElem? (i := 16) (by decide +kernel), List.mem_of_getElem? (i := 654) (by decide +kernel), List.mem_of_getElem? (i := 655) (by decide +kernel)⟩
theorem lw_p23 : lw_okq (⟨"FarHold", "findKept", "(I)V"⟩, 13) := ⟨⟨by decide +kernel, by decide +kernel⟩, List.mem_of_getElem? (i := 16) (by decide +kernel), List.mem_of_getElem? (i := 666) (by decide +kernel), List.mem_of_getElem? (i := 667) (by decide +kernel)⟩
theorem lw_p24 : lw_okq (⟨"FarHold", "gatesToFree", "(I)I"⟩, 13) := ⟨⟨by decide +kernel, by decide +kernel⟩, List.mem_of_getElem? (i := 16) (by decide +kernel), List.mem_of_getElem? (i := 670) (by decide +kernel), List.mem_of_getElem? (i := 671) (by decide +kernel)⟩
theorem lw_p25 : lw_okq (⟨"FarHold", "free", "(LFarHold$Thing;)V"⟩, 13) := ⟨⟨by decide +kernel, by decide +kernel⟩, List.mem_of_getElem? (i := 16) (by decide +kernel), List.mem_of_getElem? (i := 674) (by decide +kernel), List.mem_of_getElem? (i := 675) (by decide +kernel)⟩
theorem lw_p26 : lw_okq (⟨"FarHold$Meaning", "addBehind", "(LFarHold$Thing;LFarHold$Thing;)V"⟩, 5) := ⟨⟨by decide +kernel, by decide +kernel⟩, List.mem_of_getElem? (i := 90) (by decide +kernel), List.mem_of_getElem? (i := 748) (by decide +kernel), List.mem_of_getElem? (i := 749) (by decide +kernel)⟩
theorem lw_p27 : lw_okq (⟨"FarHold$Meaning", "depthOf", "(LFarHold$Thing;)I"⟩, 5) := ⟨⟨by decide +kernel, by decide +kernel⟩, List.mem_of_getElem? (i := 90) (by decide +kernel), List.mem_of_getElem? (i := 753) (by decide +kernel), List.mem_of_getElem? (i := 754) (by decide +kernel)⟩
theorem lw_p28 : lw_okq (⟨"FarHold$Meaning", "markNext", "(LFarHold$Thing;LFarHold$Post;LFarHold$Waiting;)V"⟩, 5) := ⟨⟨by decide +kernel, by decide +kernel⟩, List.mem_of_getElem? (i := 90) (by decide +kernel), List.mem_of_getElem? (i := 759) (by decide +kernel), List.mem_of_getElem? (i := 760) (by decide +kernel)⟩
theorem lw_p29 : lw_okq (⟨"FarHold$Meaning", "markNextThing", "(LFarHold$Thing;)V"⟩, 5) := ⟨⟨by decide +kernel, by decide +kernel⟩, List.mem_of_getElem? (i := 90) (by decide +kernel), List.mem_of_getElem? (i := 765) (by decide +kernel), List.mem_of_getElem? (i := 766) (by decide +kernel)⟩
theorem lw_p30 : lw_okq (⟨"FarHold$Meaning", "addNextByNumbers", "(LFarHold$Thing;LFarHold$Things;)V"⟩, 5) := ⟨⟨by decide +kernel, by decide +kernel⟩, List.mem_of_getElem? (i := 90) (by decide +kernel), List.mem_of_getElem? (i := 779) (by decide +kernel), List.mem_of_getElem? (i := 780) (by decide +kernel)⟩
theorem lw_p31 : lw_okq (⟨"FarHold$Meaning", "beforeOf", "(LFarHold$Thing;)LFarHold$Thing;"⟩, 5) := ⟨⟨by decide +kernel, by decide +kernel⟩, List.mem_of_getElem? (i := 90) (by decide +kernel), List.mem_of_getElem? (i := 796) (by decide +kernel), List.mem_of_getElem? (i := 797) (by decide +kernel)⟩
def lw_privs_2 : List (MethodName × Nat) := [(⟨"FarHold", "meetGates", "(LFarHold$Walk;LFarHold$Thing;)V"⟩, 13), (⟨"FarHold", "arriveBack", "(LFarHold$Letter;)Z"⟩, 13), (⟨"FarHold", "endWalk", "(LFarHold$Walk;)V"⟩, 13), (⟨"FarHold", "isStartAlive", "(LFarHold$Walk;)Z"⟩, 13), (⟨"FarHold", "addLiveFromOutside", "(LFarHold$Walk;)V"⟩, 13), (⟨"FarHold", "bringAlive", "(LFarHold$Thing;)V"⟩, 13), (⟨"FarHold", "revive", "(LFarHold$Walk;LFarHold$Thing;)V"⟩, 13), (⟨"FarHold", "findKept", "(I)V"⟩, 13), (⟨"FarHold", "gatesToFree", "(I)I"⟩, 13), (⟨"FarHold", "free", "(LFarHold$Thing;)V"⟩, 13), (⟨"FarHold$Meaning", "addBehind", "(LFarHold$Thing;LFarHold$Thing;)V"⟩, 5), (⟨"FarHold$Meaning", "depthOf", "(LFarHold$Thing;)I"⟩, 5), (⟨"FarHold$Meaning", "markNext", "(LFarHold$Thing;LFarHold$Post;LFarHold$Waiting;)V"⟩, 5), (⟨"FarHold$Meaning", "markNextThing", "(LFarHold$Thing;)V"⟩, 5), (⟨"FarHold$Meaning", "addNextByNumbers", "(LFarHold$Thing;LFarHold$Things;)V"⟩, 5), (⟨"FarHold$Meaning", "beforeOf", "(LFarHold$Thing;)LFarHold$Thing;"⟩, 5)]
theorem lw_r2 : ∀ q ∈ lw_privs_2, lw_okq q := List.forall_mem_cons.mpr ⟨lw_p16, List.forall_mem_cons.mpr ⟨lw_p17, List.forall_mem_cons.mpr ⟨lw_p18, List.forall_mem_cons.mpr ⟨lw_p19, List.forall_mem_cons.mpr ⟨lw_p20, List.forall_mem_cons.mpr ⟨lw_p21, List.forall_mem_cons.mpr ⟨lw_p22, List.forall_mem_cons.mpr ⟨lw_p23, List.forall_mem_cons.mpr ⟨lw_p24, List.forall_mem_cons.mpr ⟨lw_p25, List.forall_mem_cons.mpr ⟨lw_p26, List.forall_mem_cons.mpr ⟨lw_p27, List.forall_mem_cons.mpr ⟨lw_p28, List.forall_mem_cons.mpr ⟨lw_p29, List.forall_mem_cons.mpr ⟨lw_p30, List.forall_mem_cons.mpr ⟨lw_p31, fun _ h => absurd h List.not_mem_nil⟩⟩⟩⟩⟩⟩⟩⟩⟩⟩⟩⟩⟩⟩⟩⟩
theorem lw_p32 : lw_okq (⟨"FarHold", "sumOfCounts", "()I"⟩, 13) := ⟨⟨by decide +kernel, by decide +kernel⟩, List.mem_of_getElem? (i := 16) (by decide +kernel), List.mem_of_getElem? (i := 831) (by decide +kernel), List.mem_of_getElem? (i := 832) (by decide +kernel)⟩
theorem lw_p33 : lw_okq (⟨"FarHoldModel", "refuse", "(I)I"⟩, 50) := ⟨⟨by decide +kernel, by decide +kernel⟩, List.mem_of_getElem? (i := 835) (by decide +kernel), List.mem_of_getElem? (i := 1000) (by decide +kernel), List.mem_of_getElem? (i := 1001) (by decide +kernel)⟩
theorem lw_p34 : lw_okq (⟨"FarHoldModel", "make", "(III)I"⟩, 50) := ⟨⟨by decide +kernel, by decide +kernel⟩, List.mem_of_getElem? (i := 835) (by decide +kernel), List.mem_of_getElem? (i := 1004) (by decide +kernel), List.mem_of_getElem? (i := 1005) (by decide +kernel)⟩
theorem lw_p35 : lw_okq (⟨"FarHoldModel", "place", "(II)I"⟩, 50) := ⟨⟨by decide +kernel, by decide +kernel⟩, List.mem_of_getElem? (i := 835) (by decide +kernel), List.mem_of_getElem? (i := 1012) (by decide +kernel), List.mem_of_getElem? (i := 1013) (by decide +kernel)⟩
theorem lw_p36 : lw_okq (⟨"FarHoldModel", "isThere", "(I)Z"⟩, 50) := ⟨⟨by decide +kernel, by decide +kernel⟩, List.mem_of_getElem? (i := 835) (by decide +kernel), List.mem_of_getElem? (i := 1016) (by decide +kernel), List.mem_of_getElem? (i := 1017) (by decide +kernel)⟩
theorem lw_p37 : lw_okq (⟨"FarHoldModel", "hasPlaces", "(I)Z"⟩, 50) := ⟨⟨by decide +kernel, by decide +kernel⟩, List.mem_of_getElem? (i := 835) (by decide +kernel), List.mem_of_getElem? (i := 1020) (by decide +kernel), List.mem_of_getElem? (i := 1021) (by decide +kernel)⟩
theorem lw_p38 : lw_okq (⟨"FarHoldModel", "isNear", "(I)Z"⟩, 50) := ⟨⟨by decide +kernel, by decide +kernel⟩, List.mem_of_getElem? (i := 835) (by decide +kernel), List.mem_of_getElem? (i := 1024) (by decide +kernel), List.mem_of_getElem? (i := 1025) (by decide +kernel)⟩
theorem lw_p39 : lw_okq (⟨"FarHoldModel", "noLeads", "()V"⟩, 50) := ⟨⟨by decide +kernel, by decide +kernel⟩, List.mem_of_getElem? (i := 835) (by decide +kernel), List.mem_of_getElem? (i := 1028) (by decide +kernel), List.mem_of_getElem? (i := 1029) (by decide +kernel)⟩
theorem lw_p40 : lw_okq (⟨"FarHoldModel", "lead", "(I)V"⟩, 50) := ⟨⟨by decide +kernel, by decide +kernel⟩, List.mem_of_getElem? (i := 835) (by decide +kernel), List.mem_of_getElem? (i := 1032) (by decide +kernel), List.mem_of_getElem? (i := 1033) (by decide +kernel)⟩
theorem lw_p41 : lw_okq (⟨"FarHoldModel", "lay", "(III)V"⟩, 50) := ⟨⟨by decide +kernel, by decide +kernel⟩, List.mem_of_getElem? (i := 835) (by decide +kernel), List.mem_of_getElem? (i := 1036) (by decide +kernel), List.mem_of_getElem? (i := 1037) (by decide +kernel)⟩
theorem lw_p42 : lw_okq (⟨"FarHoldModel", "gateOf", "(II)I"⟩, 50) := ⟨⟨by decide +kernel, by decide +kernel⟩, List.mem_of_getElem? (i := 835) (by decide +kernel), List.mem_of_getElem? (i := 1083) (by decide +kernel), List.mem_of_getElem? (i := 1084) (by decide +kernel)⟩
theorem lw_p43 : lw_okq (⟨"FarHoldModel", "name", "(IIIII)I"⟩, 50) := ⟨⟨by decide +kernel, by decide +kernel⟩, List.mem_of_getElem? (i := 835) (by decide +kernel), List.mem_of_getElem? (i := 1091) (by decide +kernel), List.mem_of_getElem? (i := 1092) (by decide +kernel)⟩
theorem lw_p44 : lw_okq (⟨"FarHoldModel", "letter", "(IIIII)I"⟩, 50) := ⟨⟨by decide +kernel, by decide +kernel⟩, List.mem_of_getElem? (i := 835) (by decide +kernel), List.mem_of_getElem? (i := 1095) (by decide +kernel), List.mem_of_getElem? (i := 1096) (by decide +kernel)⟩
theorem lw_p45 : lw_okq (⟨"FarHoldModel", "half", "(III)I"⟩, 50) := ⟨⟨by decide +kernel, by decide +kernel⟩, List.mem_of_getElem? (i := 835) (by decide +kernel), List.mem_of_getElem? (i := 1099) (by decide +kernel), List.mem_of_getElem? (i := 1100) (by decide +kernel)⟩
theorem lw_p46 : lw_okq (⟨"FarHoldModel", "sends", "(I)I"⟩, 50) := ⟨⟨by decide +kernel, by decide +kernel⟩, List.mem_of_getElem? (i := 835) (by decide +kernel), List.mem_of_getElem? (i := 1107) (by decide +kernel), List.mem_of_getElem? (i := 1108) (by decide +kernel)⟩
theorem lw_p47 : lw_okq (⟨"FarHoldModel", "gatesToMeet", "(II)I"⟩, 50) := ⟨⟨by decide +kernel, by decide +kernel⟩, List.mem_of_getElem? (i := 835) (by decide +kernel), List.mem_of_getElem? (i := 1111) (by decide +kernel), List.mem_of_getElem? (i := 1112) (by decide +kernel)⟩
def lw_privs_3 : List (MethodName × Nat) := [(⟨"FarHold", "sumOfCounts", "()I"⟩, 13), (⟨"FarHoldModel", "refuse", "(I)I"⟩, 50), (⟨"FarHoldModel", "make", "(III)I"⟩, 50), (⟨"FarHoldModel", "place", "(II)I"⟩, 50), (⟨"FarHoldModel", "isThere", "(I)Z"⟩, 50), (⟨"FarHoldModel", "hasPlaces", "(I)Z"⟩, 50), (⟨"FarHoldModel", "isNear", "(I)Z"⟩, 50), (⟨"FarHoldModel", "noLeads", "()V"⟩, 50), (⟨"FarHoldModel", "lead", "(I)V"⟩, 50), (⟨"FarHoldModel", "lay", "(III)V"⟩, 50), (⟨"FarHoldModel", "gateOf", "(II)I"⟩, 50), (⟨"FarHoldModel", "name", "(IIIII)I"⟩, 50), (⟨"FarHoldModel", "letter", "(IIIII)I"⟩, 50), (⟨"FarHoldModel", "half", "(III)I"⟩, 50), (⟨"FarHoldModel", "sends", "(I)I"⟩, 50), (⟨"FarHoldModel", "gatesToMeet", "(II)I"⟩, 50)]
theorem lw_r3 : ∀ q ∈ lw_privs_3, lw_okq q := List.forall_mem_cons.mpr ⟨lw_p32, List.forall_mem_cons.mpr ⟨lw_p33, List.forall_mem_cons.mpr ⟨lw_p34, List.forall_mem_cons.mpr ⟨lw_p35, List.forall_mem_cons.mpr ⟨lw_p36, List.forall_mem_cons.mpr ⟨lw_p37, List.forall_mem_cons.mpr ⟨lw_p38, List.forall_mem_cons.mpr ⟨lw_p39, List.forall_mem_cons.mpr ⟨lw_p40, List.forall_mem_cons.mpr ⟨lw_p41, List.forall_mem_cons.mpr ⟨lw_p42, List.forall_mem_cons.mpr ⟨lw_p43, List.forall_mem_cons.mpr ⟨lw_p44, List.forall_mem_cons.mpr ⟨lw_p45, List.forall_mem_cons.mpr ⟨lw_p46, List.forall_mem_cons.mpr ⟨lw_p47, fun _ h => absurd h List.not_mem_nil⟩⟩⟩⟩⟩⟩⟩⟩⟩⟩⟩⟩⟩⟩⟩⟩
theorem lw_p48 : lw_okq (⟨"FarHoldModel", "named", "(III)V"⟩, 50) := ⟨⟨by decide +kernel, by decide +kernel⟩, List.mem_of_getElem? (i := 835) (by decide +kernel), List.mem_of_getElem? (i := 1115) (by decide +kernel), List.mem_of_getElem? (i := 1116) (by decide +kernel)⟩
theorem lw_p49 : lw_okq (⟨"FarHoldModel", "takes", "(II)V"⟩, 50) := ⟨⟨by decide +kernel, by decide +kernel⟩, List.mem_of_getElem? (i := 835) (by decide +kernel), List.mem_of_getElem? (i := 1119) (by decide +kernel), List.mem_of_getElem? (i := 1120) (by decide +kernel)⟩
theorem lw_p50 : lw_okq (⟨"FarHoldModel", "given", "(II)V"⟩, 50) := ⟨⟨by decide +kernel, by decide +kernel⟩, List.mem_of_getElem? (i := 835) (by decide +kernel), List.mem_of_getElem? (i := 1123) (by decide +kernel), List.mem_of_getElem? (i := 1124) (by decide +kernel)⟩
theorem lw_p51 : lw_okq (⟨"FarHoldModel", "stepped", "(I)V"⟩, 50) := ⟨⟨by decide +kernel, by decide +kernel⟩, List.mem_of_getElem? (i := 835) (by decide +kernel), List.mem_of_getElem? (i := 1127) (by decide +kernel), List.mem_of_getElem? (i := 1128) (by decide +kernel)⟩
theorem lw_p52 : lw_okq (⟨"FarHoldModel", "note", "(II)V"⟩, 50) := ⟨⟨by decide +kernel, by decide +kernel⟩, List.mem_of_getElem? (i := 835) (by decide +kernel), List.mem_of_getElem? (i := 1131) (by decide +kernel), List.mem_of_getElem? (i := 1132) (by decide +kernel)⟩
theorem lw_p53 : lw_okq (⟨"FarHoldModel", "isRooted", "(I)Z"⟩, 50) := ⟨⟨by decide +kernel, by decide +kernel⟩, List.mem_of_getElem? (i := 835) (by decide +kernel), List.mem_of_getElem? (i := 1135) (by decide +kernel), List.mem_of_getElem? (i := 1136) (by decide +kernel)⟩
theorem lw_p54 : lw_okq (⟨"FarHoldModel", "isWaited", "(I)Z"⟩, 50) := ⟨⟨by decide +kernel, by decide +kernel⟩, List.mem_of_getElem? (i := 835) (by decide +kernel), List.mem_of_getElem? (i := 1139) (by decide +kernel), List.mem_of_getElem? (i := 1140) (by decide +kernel)⟩
theorem lw_p55 : lw_okq (⟨"FarHoldModel", "holdsOut", "(I)Z"⟩, 50) := ⟨⟨by decide +kernel, by decide +kernel⟩, List.mem_of_getElem? (i := 835) (by decide +kernel), List.mem_of_getElem? (i := 1143) (by decide +kernel), List.mem_of_getElem? (i := 1144) (by decide +kernel)⟩
theorem lw_p56 : lw_okq (⟨"FarHoldModel", "backs", "(I)V"⟩, 50) := ⟨⟨by decide +kernel, by decide +kernel⟩, List.mem_of_getElem? (i := 835) (by decide +kernel), List.mem_of_getElem? (i := 1147) (by decide +kernel), List.mem_of_getElem? (i := 1148) (by decide +kernel)⟩
theorem lw_p57 : lw_okq (⟨"FarHoldModel", "isAlive", "(II)Z"⟩, 50) := ⟨⟨by decide +kernel, by decide +kernel⟩, List.mem_of_getElem? (i := 835) (by decide +kernel), List.mem_of_getElem? (i := 1151) (by decide +kernel), List.mem_of_getElem? (i := 1152) (by decide +kernel)⟩
theorem lw_p58 : lw_okq (⟨"FarHoldModel", "becomesAlive", "(II)Z"⟩, 50) := ⟨⟨by decide +kernel, by decide +kernel⟩, List.mem_of_getElem? (i := 835) (by decide +kernel), List.mem_of_getElem? (i := 1155) (by decide +kernel), List.mem_of_getElem? (i := 1156) (by decide +kernel)⟩
theorem lw_p59 : lw_okq (⟨"FarHoldModel", "isHeld", "(II)Z"⟩, 50) := ⟨⟨by decide +kernel, by decide +kernel⟩, List.mem_of_getElem? (i := 835) (by decide +kernel), List.mem_of_getElem? (i := 1159) (by decide +kernel), List.mem_of_getElem? (i := 1160) (by decide +kernel)⟩
theorem lw_p60 : lw_okq (⟨"FarHoldModel", "measure", "(I)V"⟩, 50) := ⟨⟨by decide +kernel, by decide +kernel⟩, List.mem_of_getElem? (i := 835) (by decide +kernel), List.mem_of_getElem? (i := 1187) (by decide +kernel), List.mem_of_getElem? (i := 1188) (by decide +kernel)⟩
theorem lw_p61 : lw_okq (⟨"FarHoldModel", "goes", "(II)Z"⟩, 50) := ⟨⟨by decide +kernel, by decide +kernel⟩, List.mem_of_getElem? (i := 835) (by decide +kernel), List.mem_of_getElem? (i := 1191) (by decide +kernel), List.mem_of_getElem? (i := 1192) (by decide +kernel)⟩
theorem lw_p62 : lw_okq (⟨"FarHoldModel", "rootFor", "()I"⟩, 50) := ⟨⟨by decide +kernel, by decide +kernel⟩, List.mem_of_getElem? (i := 835) (by decide +kernel), List.mem_of_getElem? (i := 1195) (by decide +kernel), List.mem_of_getElem? (i := 1196) (by decide +kernel)⟩
theorem lw_p63 : lw_okq (⟨"FarHoldModel", "marksMeant", "()V"⟩, 50) := ⟨⟨by decide +kernel, by decide +kernel⟩, List.mem_of_getElem? (i := 835) (by decide +kernel), List.mem_of_getElem? (i := 1207) (by decide +kernel), List.mem_of_getElem? (i := 1208) (by decide +kernel)⟩
def lw_privs_4 : List (MethodName × Nat) := [(⟨"FarHoldModel", "named", "(III)V"⟩, 50), (⟨"FarHoldModel", "takes", "(II)V"⟩, 50), (⟨"FarHoldModel", "given", "(II)V"⟩, 50), (⟨"FarHoldModel", "stepped", "(I)V"⟩, 50), (⟨"FarHoldModel", "note", "(II)V"⟩, 50), (⟨"FarHoldModel", "isRooted", "(I)Z"⟩, 50), (⟨"FarHoldModel", "isWaited", "(I)Z"⟩, 50), (⟨"FarHoldModel", "holdsOut", "(I)Z"⟩, 50), (⟨"FarHoldModel", "backs", "(I)V"⟩, 50), (⟨"FarHoldModel", "isAlive", "(II)Z"⟩, 50), (⟨"FarHoldModel", "becomesAlive", "(II)Z"⟩, 50), (⟨"FarHoldModel", "isHeld", "(II)Z"⟩, 50), (⟨"FarHoldModel", "measure", "(I)V"⟩, 50), (⟨"FarHoldModel", "goes", "(II)Z"⟩, 50), (⟨"FarHoldModel", "rootFor", "()I"⟩, 50), (⟨"FarHoldModel", "marksMeant", "()V"⟩, 50)]
theorem lw_r4 : ∀ q ∈ lw_privs_4, lw_okq q := List.forall_mem_cons.mpr ⟨lw_p48, List.forall_mem_cons.mpr ⟨lw_p49, List.forall_mem_cons.mpr ⟨lw_p50, List.forall_mem_cons.mpr ⟨lw_p51, List.forall_mem_cons.mpr ⟨lw_p52, List.forall_mem_cons.mpr ⟨lw_p53, List.forall_mem_cons.mpr ⟨lw_p54, List.forall_mem_cons.mpr ⟨lw_p55, List.forall_mem_cons.mpr ⟨lw_p56, List.forall_mem_cons.mpr ⟨lw_p57, List.forall_mem_cons.mpr ⟨lw_p58, List.forall_mem_cons.mpr ⟨lw_p59, List.forall_mem_cons.mpr ⟨lw_p60, List.forall_mem_cons.mpr ⟨lw_p61, List.forall_mem_cons.mpr ⟨lw_p62, List.forall_mem_cons.mpr ⟨lw_p63, fun _ h => absurd h List.not_mem_nil⟩⟩⟩⟩⟩⟩⟩⟩⟩⟩⟩⟩⟩⟩⟩⟩
def lw_privs : List (MethodName × Nat) := lw_privs_1 ++ (lw_privs_2 ++ (lw_privs_3 ++ (lw_privs_4)))
def lw_tbl : List Cond := k2_sels lw_privs ++ tables_1
theorem lw_privs_ok : ∀ q ∈ lw_privs, lw_okq q := by
  show ∀ q ∈ lw_privs_1 ++ (lw_privs_2 ++ (lw_privs_3 ++ (lw_privs_4))), lw_okq q
  exact List.forall_mem_append.mpr ⟨lw_r1, List.forall_mem_append.mpr ⟨lw_r2, List.forall_mem_append.mpr ⟨lw_r3, lw_r4⟩⟩⟩
/-- the words that ride on into a callee -/
def wT : List Cond := lw_tbl.filter goodWord
end
section
def RX0 : String := "FarHold$Letter"
def TX0 : u_T := fun k => match k with
  | 0 => ("FarHold$Letter", "kind", "I", true)
  | 1 => ("FarHold$Letter", "from", "I", true)
  | 2 => ("FarHold$Letter", "to", "I", true)
  | 3 => ("FarHold$Letter", "about", "LFarHold$Thing;", true)
  | 4 => ("FarHold$Letter", "weight", "I", false)
  | 5 => ("FarHold$Letter", "target", "LFarHold$Thing;", false)
  | 6 => ("FarHold$Letter", "place", "I", false)
  | 7 => ("FarHold$Letter", "ofWalk", "LFarHold$Walk;", false)
  | 8 => ("FarHold$Letter", "told", "I", false)
  | _ => ("FarHold$Letter", "isUnderWay", "Z", false)
def tyX0 : Nat → FieldType := fun k => match k with
  | 0 => .int
  | 1 => .int
  | 2 => .int
  | 3 => .object "FarHold$Thing"
  | 4 => .int
  | 5 => .object "FarHold$Thing"
  | 6 => .int
  | 7 => .object "FarHold$Walk"
  | 8 => .int
  | _ => .boolean
theorem nmX0 : ∀ a, a < 10 → ∀ b, b < 10 → a ≠ b → (TX0 a).2.1 ≠ (TX0 b).2.1 := by decide +kernel
theorem tyX0_ok : ∀ k, k < 10 → parseFieldDescriptor (TX0 k).2.2.1 = some (tyX0 k) := by decide +kernel
abbrev cX0_init : ByteArray := prog_2_method_1_code
def yX0_init : MethodName := ⟨RX0, "<init>", "(IIILFarHold$Thing;)V"⟩
def RX1 : String := "FarHold$Meaning"
def TX1 : u_T := fun k => match k with
  | 0 => ("FarHold$Meaning", "found", "LFarHold$Reach;", true)
  | 1 => ("FarHold$Meaning", "isNext", "[Z", true)
  | 2 => ("FarHold$Meaning", "before", "[LFarHold$Thing;", true)
  | 3 => ("FarHold$Meaning", "depth", "[I", true)
  | _ => ("FarHold$Meaning", "nextSize", "I", false)
def tyX1 : Nat → FieldType := fun k => match k with
  | 0 => .object "FarHold$Reach"
  | 1 => .array .boolean
  | 2 => .array (.object "FarHold$Thing")
  | 3 => .array .int
  | _ => .int
theorem nmX1 : ∀ a, a < 5 → ∀ b, b < 5 → a ≠ b → (TX1 a).2.1 ≠ (TX1 b).2.1 := by decide +kernel
theorem tyX1_ok : ∀ k, k < 5 → parseFieldDescriptor (TX1 k).2.2.1 = some (tyX1 k) := by decide +kernel
abbrev cX1_init : ByteArray := prog_3_method_1_code
def yX1_init : MethodName := ⟨RX1, "<init>", "()V"⟩
abbrev cX1_has : ByteArray := prog_3_method_2_code
def yX1_has : MethodName := ⟨RX1, "has", "(LFarHold$Thing;)Z"⟩
abbrev cX1_trace : ByteArray := prog_3_method_3_code
def yX1_trace : MethodName := ⟨RX1, "trace", "(LFarHold$Things;LFarHold$Post;LFarHold$Waiting;)V"⟩
abbrev cX1_markNext : ByteArray := prog_3_method_4_code
def yX1_markNext : MethodName := ⟨RX1, "markNext", "(LFarHold$Thing;LFarHold$Post;LFarHold$Waiting;)V"⟩
abbrev cX1_markNextThing : ByteArray := prog_3_method_5_code
def yX1_markNextThing : MethodName := ⟨RX1, "markNextThing", "(LFarHold$Thing;)V"⟩
abbrev cX1_addNextByNumbers : ByteArray := prog_3_method_6_code
def yX1_addNextByNumbers : MethodName := ⟨RX1, "addNextByNumbers", "(LFarHold$Thing;LFarHold$Things;)V"⟩
abbrev cX1_addBehind : ByteArray := prog_3_method_7_code
def yX1_addBehind : MethodName := ⟨RX1, "addBehind", "(LFarHold$Thing;LFarHold$Thing;)V"⟩
abbrev cX1_depthOf : ByteArray := prog_3_method_8_code
def yX1_depthOf : MethodName := ⟨RX1, "depthOf", "(LFarHold$Thing;)I"⟩
abbrev cX1_beforeOf : ByteArray := prog_3_method_9_code
def yX1_beforeOf : MethodName := ⟨RX1, "beforeOf", "(LFarHold$Thing;)LFarHold$Thing;"⟩
abbrev cX1_onTheWay : ByteArray := prog_3_method_10_code
def yX1_onTheWay : MethodName := ⟨RX1, "onTheWay", "(LFarHold$Thing;I)I"⟩
def RX2 : String := "FarHold$Post"
def TX2 : u_T := fun k => match k with
  | 0 => ("FarHold$Post", "all", "[LFarHold$Letter;", true)
  | _ => ("FarHold$Post", "made", "I", false)
def tyX2 : Nat → FieldType := fun k => match k with
  | 0 => .array (.object "FarHold$Letter")
  | _ => .int
theorem nmX2 : ∀ a, a < 2 → ∀ b, b < 2 → a ≠ b → (TX2 a).2.1 ≠ (TX2 b).2.1 := by decide +kernel
theorem tyX2_ok : ∀ k, k < 2 → parseFieldDescriptor (TX2 k).2.2.1 = some (tyX2 k) := by decide +kernel
abbrev cX2_init : ByteArray := prog_4_method_1_code
def yX2_init : MethodName := ⟨RX2, "<init>", "()V"⟩
abbrev cX2_size : ByteArray := prog_4_method_2_code
def yX2_size : MethodName := ⟨RX2, "size", "()I"⟩
abbrev cX2_hasRoom : ByteArray := prog_4_method_3_code
def yX2_hasRoom : MethodName := ⟨RX2, "hasRoom", "(I)Z"⟩
abbrev cX2_find : ByteArray := prog_4_method_4_code
def yX2_find : MethodName := ⟨RX2, "find", "(I)LFarHold$Letter;"⟩
abbrev cX2_file : ByteArray := prog_4_method_5_code
def yX2_file : MethodName := ⟨RX2, "file", "(LFarHold$Letter;)I"⟩
abbrev cX2_fileName : ByteArray := prog_4_method_6_code
def yX2_fileName : MethodName := ⟨RX2, "fileName", "(ILFarHold$Thing;ILFarHold$Thing;I)I"⟩
abbrev cX2_fileOfWeight : ByteArray := prog_4_method_7_code
def yX2_fileOfWeight : MethodName := ⟨RX2, "fileOfWeight", "(IIILFarHold$Thing;I)I"⟩
abbrev cX2_fileOfWalk : ByteArray := prog_4_method_8_code
def yX2_fileOfWalk : MethodName := ⟨RX2, "fileOfWalk", "(ILFarHold$Walk;ILFarHold$Thing;I)I"⟩
abbrev cX2_sizeUnderWay : ByteArray := prog_4_method_9_code
def yX2_sizeUnderWay : MethodName := ⟨RX2, "sizeUnderWay", "()I"⟩
abbrev cX2_weightUnderWay : ByteArray := prog_4_method_10_code
def yX2_weightUnderWay : MethodName := ⟨RX2, "weightUnderWay", "(LFarHold$Thing;)I"⟩
def RX3 : String := "FarHold$Reach"
def TX3 : u_T := fun k => match k with
  | 0 => ("FarHold$Reach", "marked", "[Z", true)
  | 1 => ("FarHold$Reach", "order", "[LFarHold$Thing;", true)
  | _ => ("FarHold$Reach", "filled", "I", false)
def tyX3 : Nat → FieldType := fun k => match k with
  | 0 => .array .boolean
  | 1 => .array (.object "FarHold$Thing")
  | _ => .int
theorem nmX3 : ∀ a, a < 3 → ∀ b, b < 3 → a ≠ b → (TX3 a).2.1 ≠ (TX3 b).2.1 := by decide +kernel
theorem tyX3_ok : ∀ k, k < 3 → parseFieldDescriptor (TX3 k).2.2.1 = some (tyX3 k) := by decide +kernel
abbrev cX3_init : ByteArray := prog_5_method_1_code
def yX3_init : MethodName := ⟨RX3, "<init>", "()V"⟩
abbrev cX3_restart : ByteArray := prog_5_method_2_code
def yX3_restart : MethodName := ⟨RX3, "restart", "()V"⟩
abbrev cX3_size : ByteArray := prog_5_method_3_code
def yX3_size : MethodName := ⟨RX3, "size", "()I"⟩
abbrev cX3_at : ByteArray := prog_5_method_4_code
def yX3_at : MethodName := ⟨RX3, "at", "(I)LFarHold$Thing;"⟩
abbrev cX3_has : ByteArray := prog_5_method_5_code
def yX3_has : MethodName := ⟨RX3, "has", "(LFarHold$Thing;)Z"⟩
abbrev cX3_add : ByteArray := prog_5_method_6_code
def yX3_add : MethodName := ⟨RX3, "add", "(LFarHold$Thing;)V"⟩
abbrev cX3_addHeldBy : ByteArray := prog_5_method_7_code
def yX3_addHeldBy : MethodName := ⟨RX3, "addHeldBy", "(LFarHold$Thing;)V"⟩
abbrev cX3_spread : ByteArray := prog_5_method_8_code
def yX3_spread : MethodName := ⟨RX3, "spread", "()V"⟩
def RX4 : String := "FarHold$Row"
def TX4 : u_T := fun k => match k with
  | 0 => ("FarHold$Row", "sort", "I", true)
  | _ => ("FarHold$Row", "values", "[J", true)
def tyX4 : Nat → FieldType := fun k => match k with
  | 0 => .int
  | _ => .array .long
theorem nmX4 : ∀ a, a < 2 → ∀ b, b < 2 → a ≠ b → (TX4 a).2.1 ≠ (TX4 b).2.1 := by decide +kernel
theorem tyX4_ok : ∀ k, k < 2 → parseFieldDescriptor (TX4 k).2.2.1 = some (tyX4 k) := by decide +kernel
abbrev cX4_init : ByteArray := prog_6_method_1_code
def yX4_init : MethodName := ⟨RX4, "<init>", "(II)V"⟩
abbrev cX4_hasElement : ByteArray := prog_6_method_2_code
def yX4_hasElement : MethodName := ⟨RX4, "hasElement", "(I)Z"⟩
abbrev cX4_read : ByteArray := prog_6_method_3_code
def yX4_read : MethodName := ⟨RX4, "read", "(I)J"⟩
abbrev cX4_write : ByteArray := prog_6_method_4_code
def yX4_write : MethodName := ⟨RX4, "write", "(IJ)V"⟩
abbrev cX4_cut : ByteArray := prog_6_method_5_code
def yX4_cut : MethodName := ⟨RX4, "cut", "(J)J"⟩
abbrev cX4_canTake : ByteArray := prog_6_method_6_code
def yX4_canTake : MethodName := ⟨RX4, "canTake", "(LFarHold$Row;II)Z"⟩
abbrev cX4_take : ByteArray := prog_6_method_7_code
def yX4_take : MethodName := ⟨RX4, "take", "(LFarHold$Row;II)V"⟩
def RX5 : String := "FarHold$Thing"
def TX5 : u_T := fun k => match k with
  | 0 => ("FarHold$Thing", "number", "I", true)
  | 1 => ("FarHold$Thing", "kind", "I", true)
  | 2 => ("FarHold$Thing", "host", "I", true)
  | 3 => ("FarHold$Thing", "heldThings", "[LFarHold$Thing;", true)
  | 4 => ("FarHold$Thing", "heldRows", "[LFarHold$Row;", true)
  | 5 => ("FarHold$Thing", "mark", "I", false)
  | 6 => ("FarHold$Thing", "named", "LFarHold$Thing;", false)
  | 7 => ("FarHold$Thing", "weight", "I", false)
  | 8 => ("FarHold$Thing", "exit", "I", false)
  | 9 => ("FarHold$Thing", "broken", "Z", false)
  | _ => ("FarHold$Thing", "isThere", "Z", false)
def tyX5 : Nat → FieldType := fun k => match k with
  | 0 => .int
  | 1 => .int
  | 2 => .int
  | 3 => .array (.object "FarHold$Thing")
  | 4 => .array (.object "FarHold$Row")
  | 5 => .int
  | 6 => .object "FarHold$Thing"
  | 7 => .int
  | 8 => .int
  | 9 => .boolean
  | _ => .boolean
theorem nmX5 : ∀ a, a < 11 → ∀ b, b < 11 → a ≠ b → (TX5 a).2.1 ≠ (TX5 b).2.1 := by decide +kernel
theorem tyX5_ok : ∀ k, k < 11 → parseFieldDescriptor (TX5 k).2.2.1 = some (tyX5 k) := by decide +kernel
abbrev cX5_init : ByteArray := prog_7_method_1_code
def yX5_init : MethodName := ⟨RX5, "<init>", "(IIII)V"⟩
abbrev cX5_placesSize : ByteArray := prog_7_method_2_code
def yX5_placesSize : MethodName := ⟨RX5, "placesSize", "()I"⟩
abbrev cX5_hasPlaces : ByteArray := prog_7_method_3_code
def yX5_hasPlaces : MethodName := ⟨RX5, "hasPlaces", "()Z"⟩
abbrev cX5_hasPlace : ByteArray := prog_7_method_4_code
def yX5_hasPlace : MethodName := ⟨RX5, "hasPlace", "(I)Z"⟩
abbrev cX5_thingAt : ByteArray := prog_7_method_5_code
def yX5_thingAt : MethodName := ⟨RX5, "thingAt", "(I)LFarHold$Thing;"⟩
abbrev cX5_rowAt : ByteArray := prog_7_method_6_code
def yX5_rowAt : MethodName := ⟨RX5, "rowAt", "(I)LFarHold$Row;"⟩
abbrev cX5_holdsNothing : ByteArray := prog_7_method_7_code
def yX5_holdsNothing : MethodName := ⟨RX5, "holdsNothing", "(I)Z"⟩
abbrev cX5_holdThing : ByteArray := prog_7_method_8_code
def yX5_holdThing : MethodName := ⟨RX5, "holdThing", "(ILFarHold$Thing;)V"⟩
abbrev cX5_holdRow : ByteArray := prog_7_method_9_code
def yX5_holdRow : MethodName := ⟨RX5, "holdRow", "(ILFarHold$Row;)V"⟩
abbrev cX5_isAnchor : ByteArray := prog_7_method_10_code
def yX5_isAnchor : MethodName := ⟨RX5, "isAnchor", "()Z"⟩
abbrev cX5_takeFromExit : ByteArray := prog_7_method_11_code
def yX5_takeFromExit : MethodName := ⟨RX5, "takeFromExit", "(I)V"⟩
def RX6 : String := "FarHold$Things"
def TX6 : u_T := fun k => match k with
  | 0 => ("FarHold$Things", "all", "[LFarHold$Thing;", true)
  | _ => ("FarHold$Things", "made", "I", false)
def tyX6 : Nat → FieldType := fun k => match k with
  | 0 => .array (.object "FarHold$Thing")
  | _ => .int
theorem nmX6 : ∀ a, a < 2 → ∀ b, b < 2 → a ≠ b → (TX6 a).2.1 ≠ (TX6 b).2.1 := by decide +kernel
theorem tyX6_ok : ∀ k, k < 2 → parseFieldDescriptor (TX6 k).2.2.1 = some (tyX6 k) := by decide +kernel
abbrev cX6_init : ByteArray := prog_8_method_1_code
def yX6_init : MethodName := ⟨RX6, "<init>", "()V"⟩
abbrev cX6_size : ByteArray := prog_8_method_2_code
def yX6_size : MethodName := ⟨RX6, "size", "()I"⟩
abbrev cX6_sizeThere : ByteArray := prog_8_method_3_code
def yX6_sizeThere : MethodName := ⟨RX6, "sizeThere", "()I"⟩
abbrev cX6_make : ByteArray := prog_8_method_4_code
def yX6_make : MethodName := ⟨RX6, "make", "(III)LFarHold$Thing;"⟩
abbrev cX6_ever : ByteArray := prog_8_method_5_code
def yX6_ever : MethodName := ⟨RX6, "ever", "(I)LFarHold$Thing;"⟩
abbrev cX6_find : ByteArray := prog_8_method_6_code
def yX6_find : MethodName := ⟨RX6, "find", "(I)LFarHold$Thing;"⟩
abbrev cX6_gateAt : ByteArray := prog_8_method_7_code
def yX6_gateAt : MethodName := ⟨RX6, "gateAt", "(ILFarHold$Thing;)LFarHold$Thing;"⟩
abbrev cX6_weightOfGates : ByteArray := prog_8_method_8_code
def yX6_weightOfGates : MethodName := ⟨RX6, "weightOfGates", "(LFarHold$Thing;)I"⟩
def RX7 : String := "FarHold$Waiting"
def TX7 : u_T := fun k => match k with
  | 0 => ("FarHold$Waiting", "names", "[LFarHold$WaitingName;", true)
  | _ => ("FarHold$Waiting", "filled", "I", false)
def tyX7 : Nat → FieldType := fun k => match k with
  | 0 => .array (.object "FarHold$WaitingName")
  | _ => .int
theorem nmX7 : ∀ a, a < 2 → ∀ b, b < 2 → a ≠ b → (TX7 a).2.1 ≠ (TX7 b).2.1 := by decide +kernel
theorem tyX7_ok : ∀ k, k < 2 → parseFieldDescriptor (TX7 k).2.2.1 = some (tyX7 k) := by decide +kernel
abbrev cX7_init : ByteArray := prog_9_method_1_code
def yX7_init : MethodName := ⟨RX7, "<init>", "()V"⟩
abbrev cX7_size : ByteArray := prog_9_method_2_code
def yX7_size : MethodName := ⟨RX7, "size", "()I"⟩
abbrev cX7_at : ByteArray := prog_9_method_3_code
def yX7_at : MethodName := ⟨RX7, "at", "(I)LFarHold$WaitingName;"⟩
abbrev cX7_add : ByteArray := prog_9_method_4_code
def yX7_add : MethodName := ⟨RX7, "add", "(LFarHold$Thing;LFarHold$Thing;I)Z"⟩
abbrev cX7_firstFor : ByteArray := prog_9_method_5_code
def yX7_firstFor : MethodName := ⟨RX7, "firstFor", "(LFarHold$Thing;)I"⟩
abbrev cX7_remove : ByteArray := prog_9_method_6_code
def yX7_remove : MethodName := ⟨RX7, "remove", "(I)V"⟩
def RX8 : String := "FarHold$WaitingName"
def TX8 : u_T := fun k => match k with
  | 0 => ("FarHold$WaitingName", "sent", "LFarHold$Thing;", true)
  | 1 => ("FarHold$WaitingName", "target", "LFarHold$Thing;", true)
  | _ => ("FarHold$WaitingName", "place", "I", true)
def tyX8 : Nat → FieldType := fun k => match k with
  | 0 => .object "FarHold$Thing"
  | 1 => .object "FarHold$Thing"
  | _ => .int
theorem nmX8 : ∀ a, a < 3 → ∀ b, b < 3 → a ≠ b → (TX8 a).2.1 ≠ (TX8 b).2.1 := by decide +kernel
theorem tyX8_ok : ∀ k, k < 3 → parseFieldDescriptor (TX8 k).2.2.1 = some (tyX8 k) := by decide +kernel
abbrev cX8_init : ByteArray := prog_10_method_1_code
def yX8_init : MethodName := ⟨RX8, "<init>", "(LFarHold$Thing;LFarHold$Thing;I)V"⟩
def RX9 : String := "FarHold$Walk"
def TX9 : u_T := fun k => match k with
  | 0 => ("FarHold$Walk", "number", "I", true)
  | 1 => ("FarHold$Walk", "start", "LFarHold$Thing;", true)
  | 2 => ("FarHold$Walk", "passed", "[Z", true)
  | 3 => ("FarHold$Walk", "met", "[Z", true)
  | 4 => ("FarHold$Walk", "metWeights", "[I", true)
  | 5 => ("FarHold$Walk", "noted", "[I", true)
  | 6 => ("FarHold$Walk", "ending", "I", false)
  | 7 => ("FarHold$Walk", "steps", "I", false)
  | 8 => ("FarHold$Walk", "backs", "I", false)
  | 9 => ("FarHold$Walk", "passedSize", "I", false)
  | _ => ("FarHold$Walk", "metSize", "I", false)
def tyX9 : Nat → FieldType := fun k => match k with
  | 0 => .int
  | 1 => .object "FarHold$Thing"
  | 2 => .array .boolean
  | 3 => .array .boolean
  | 4 => .array .int
  | 5 => .array .int
  | 6 => .int
  | 7 => .int
  | 8 => .int
  | 9 => .int
  | _ => .int
theorem nmX9 : ∀ a, a < 11 → ∀ b, b < 11 → a ≠ b → (TX9 a).2.1 ≠ (TX9 b).2.1 := by decide +kernel
theorem tyX9_ok : ∀ k, k < 11 → parseFieldDescriptor (TX9 k).2.2.1 = some (tyX9 k) := by decide +kernel
abbrev cX9_init : ByteArray := prog_11_method_1_code
def yX9_init : MethodName := ⟨RX9, "<init>", "(ILFarHold$Thing;)V"⟩
abbrev cX9_hasPassed : ByteArray := prog_11_method_2_code
def yX9_hasPassed : MethodName := ⟨RX9, "hasPassed", "(LFarHold$Thing;)Z"⟩
abbrev cX9_hasMet : ByteArray := prog_11_method_3_code
def yX9_hasMet : MethodName := ⟨RX9, "hasMet", "(LFarHold$Thing;)Z"⟩
abbrev cX9_weightMetFor : ByteArray := prog_11_method_4_code
def yX9_weightMetFor : MethodName := ⟨RX9, "weightMetFor", "(LFarHold$Thing;)I"⟩
abbrev cX9_pass : ByteArray := prog_11_method_5_code
def yX9_pass : MethodName := ⟨RX9, "pass", "(LFarHold$Thing;I)V"⟩
abbrev cX9_meet : ByteArray := prog_11_method_6_code
def yX9_meet : MethodName := ⟨RX9, "meet", "(LFarHold$Thing;LFarHold$Thing;)V"⟩
abbrev cX9_comeBack : ByteArray := prog_11_method_7_code
def yX9_comeBack : MethodName := ⟨RX9, "comeBack", "(I)V"⟩
abbrev cX9_isChanged : ByteArray := prog_11_method_8_code
def yX9_isChanged : MethodName := ⟨RX9, "isChanged", "([I)Z"⟩
def RX10 : String := "FarHold"
def TX10 : u_T := fun k => match k with
  | 0 => ("FarHold", "things", "LFarHold$Things;", true)
  | 1 => ("FarHold", "post", "LFarHold$Post;", true)
  | 2 => ("FarHold", "waiting", "LFarHold$Waiting;", true)
  | 3 => ("FarHold", "walks", "[LFarHold$Walk;", true)
  | 4 => ("FarHold", "counts", "[I", true)
  | 5 => ("FarHold", "refusals", "[I", true)
  | 6 => ("FarHold", "freedNumbers", "[I", true)
  | 7 => ("FarHold", "reach", "LFarHold$Reach;", true)
  | 8 => ("FarHold", "alive", "LFarHold$Reach;", true)
  | 9 => ("FarHold", "meaning", "LFarHold$Meaning;", true)
  | 10 => ("FarHold", "walksBegun", "I", false)
  | 11 => ("FarHold", "freedSize", "I", false)
  | _ => ("FarHold", "deliveredAgain", "I", false)
def tyX10 : Nat → FieldType := fun k => match k with
  | 0 => .object "FarHold$Things"
  | 1 => .object "FarHold$Post"
  | 2 => .object "FarHold$Waiting"
  | 3 => .array (.object "FarHold$Walk")
  | 4 => .array .int
  | 5 => .array .int
  | 6 => .array .int
  | 7 => .object "FarHold$Reach"
  | 8 => .object "FarHold$Reach"
  | 9 => .object "FarHold$Meaning"
  | 10 => .int
  | 11 => .int
  | _ => .int
theorem nmX10 : ∀ a, a < 13 → ∀ b, b < 13 → a ≠ b → (TX10 a).2.1 ≠ (TX10 b).2.1 := by decide +kernel
theorem tyX10_ok : ∀ k, k < 13 → parseFieldDescriptor (TX10 k).2.2.1 = some (tyX10 k) := by decide +kernel
abbrev cX10_init : ByteArray := prog_1_method_1_code
def yX10_init : MethodName := ⟨RX10, "<init>", "()V"⟩
abbrev cX10_root : ByteArray := prog_1_method_2_code
def yX10_root : MethodName := ⟨RX10, "root", "(II)I"⟩
abbrev cX10_leaf : ByteArray := prog_1_method_3_code
def yX10_leaf : MethodName := ⟨RX10, "leaf", "(III)I"⟩
abbrev cX10_box : ByteArray := prog_1_method_4_code
def yX10_box : MethodName := ⟨RX10, "box", "(III)I"⟩
abbrev cX10_put : ByteArray := prog_1_method_5_code
def yX10_put : MethodName := ⟨RX10, "put", "(III)I"⟩
abbrev cX10_clear : ByteArray := prog_1_method_6_code
def yX10_clear : MethodName := ⟨RX10, "clear", "(II)I"⟩
abbrev cX10_row : ByteArray := prog_1_method_7_code
def yX10_row : MethodName := ⟨RX10, "row", "(IIII)I"⟩
abbrev cX10_set : ByteArray := prog_1_method_8_code
def yX10_set : MethodName := ⟨RX10, "set", "(IIIJ)I"⟩
abbrev cX10_copy : ByteArray := prog_1_method_9_code
def yX10_copy : MethodName := ⟨RX10, "copy", "(IIIII)I"⟩
abbrev cX10_element : ByteArray := prog_1_method_10_code
def yX10_element : MethodName := ⟨RX10, "element", "(III)J"⟩
abbrev cX10_holds : ByteArray := prog_1_method_11_code
def yX10_holds : MethodName := ⟨RX10, "holds", "(II)I"⟩
abbrev cX10_thing : ByteArray := prog_1_method_12_code
def yX10_thing : MethodName := ⟨RX10, "thing", "(II)I"⟩
abbrev cX10_gate : ByteArray := prog_1_method_13_code
def yX10_gate : MethodName := ⟨RX10, "gate", "(II)I"⟩
abbrev cX10_send : ByteArray := prog_1_method_14_code
def yX10_send : MethodName := ⟨RX10, "send", "(III)I"⟩
abbrev cX10_deliver : ByteArray := prog_1_method_15_code
def yX10_deliver : MethodName := ⟨RX10, "deliver", "(I)I"⟩
abbrev cX10_letter : ByteArray := prog_1_method_16_code
def yX10_letter : MethodName := ⟨RX10, "letter", "(II)I"⟩
abbrev cX10_clean : ByteArray := prog_1_method_17_code
def yX10_clean : MethodName := ⟨RX10, "clean", "(I)I"⟩
abbrev cX10_freed : ByteArray := prog_1_method_18_code
def yX10_freed : MethodName := ⟨RX10, "freed", "(I)I"⟩
abbrev cX10_doubt : ByteArray := prog_1_method_19_code
def yX10_doubt : MethodName := ⟨RX10, "doubt", "(I)I"⟩
abbrev cX10_walk : ByteArray := prog_1_method_20_code
def yX10_walk : MethodName := ⟨RX10, "walk", "(II)I"⟩
abbrev cX10_meant : ByteArray := prog_1_method_21_code
def yX10_meant : MethodName := ⟨RX10, "meant", "(I)Z"⟩
abbrev cX10_why : ByteArray := prog_1_method_22_code
def yX10_why : MethodName := ⟨RX10, "why", "(II)I"⟩
abbrev cX10_dead : ByteArray := prog_1_method_23_code
def yX10_dead : MethodName := ⟨RX10, "dead", "(I)I"⟩
abbrev cX10_audit : ByteArray := prog_1_method_24_code
def yX10_audit : MethodName := ⟨RX10, "audit", "(II)I"⟩
abbrev cX10_status : ByteArray := prog_1_method_25_code
def yX10_status : MethodName := ⟨RX10, "status", "(I)I"⟩
abbrev cX10_refuse : ByteArray := prog_1_method_26_code
def yX10_refuse : MethodName := ⟨RX10, "refuse", "(I)I"⟩
abbrev cX10_isHost : ByteArray := prog_1_method_27_code
def yX10_isHost : MethodName := ⟨RX10, "isHost", "(I)Z"⟩
abbrev cX10_touch : ByteArray := prog_1_method_28_code
def yX10_touch : MethodName := ⟨RX10, "touch", "(I)V"⟩
abbrev cX10_countOf : ByteArray := prog_1_method_29_code
def yX10_countOf : MethodName := ⟨RX10, "countOf", "(I)I"⟩
abbrev cX10_sumOfCounts : ByteArray := prog_1_method_30_code
def yX10_sumOfCounts : MethodName := ⟨RX10, "sumOfCounts", "()I"⟩
abbrev cX10_isNear : ByteArray := prog_1_method_31_code
def yX10_isNear : MethodName := ⟨RX10, "isNear", "(LFarHold$Thing;)Z"⟩
abbrev cX10_addRoots : ByteArray := prog_1_method_32_code
def yX10_addRoots : MethodName := ⟨RX10, "addRoots", "(I)V"⟩
abbrev cX10_sendName : ByteArray := prog_1_method_33_code
def yX10_sendName : MethodName := ⟨RX10, "sendName", "(LFarHold$Thing;LFarHold$Thing;I)I"⟩
abbrev cX10_arrive : ByteArray := prog_1_method_34_code
def yX10_arrive : MethodName := ⟨RX10, "arrive", "(LFarHold$Letter;)Z"⟩
abbrev cX10_arriveName : ByteArray := prog_1_method_35_code
def yX10_arriveName : MethodName := ⟨RX10, "arriveName", "(LFarHold$Letter;)Z"⟩
abbrev cX10_gateWithMore : ByteArray := prog_1_method_36_code
def yX10_gateWithMore : MethodName := ⟨RX10, "gateWithMore", "(ILFarHold$Thing;I)LFarHold$Thing;"⟩
abbrev cX10_arriveMore : ByteArray := prog_1_method_37_code
def yX10_arriveMore : MethodName := ⟨RX10, "arriveMore", "(LFarHold$Letter;)Z"⟩
abbrev cX10_arriveGive : ByteArray := prog_1_method_38_code
def yX10_arriveGive : MethodName := ⟨RX10, "arriveGive", "(LFarHold$Letter;)Z"⟩
abbrev cX10_arriveHome : ByteArray := prog_1_method_39_code
def yX10_arriveHome : MethodName := ⟨RX10, "arriveHome", "(LFarHold$Letter;)Z"⟩
abbrev cX10_arriveStep : ByteArray := prog_1_method_40_code
def yX10_arriveStep : MethodName := ⟨RX10, "arriveStep", "(LFarHold$Letter;)Z"⟩
abbrev cX10_gatesToMeet : ByteArray := prog_1_method_41_code
def yX10_gatesToMeet : MethodName := ⟨RX10, "gatesToMeet", "(LFarHold$Walk;LFarHold$Thing;)I"⟩
abbrev cX10_meetGates : ByteArray := prog_1_method_42_code
def yX10_meetGates : MethodName := ⟨RX10, "meetGates", "(LFarHold$Walk;LFarHold$Thing;)V"⟩
abbrev cX10_arriveBack : ByteArray := prog_1_method_43_code
def yX10_arriveBack : MethodName := ⟨RX10, "arriveBack", "(LFarHold$Letter;)Z"⟩
abbrev cX10_endWalk : ByteArray := prog_1_method_44_code
def yX10_endWalk : MethodName := ⟨RX10, "endWalk", "(LFarHold$Walk;)V"⟩
abbrev cX10_isStartAlive : ByteArray := prog_1_method_45_code
def yX10_isStartAlive : MethodName := ⟨RX10, "isStartAlive", "(LFarHold$Walk;)Z"⟩
abbrev cX10_addLiveFromOutside : ByteArray := prog_1_method_46_code
def yX10_addLiveFromOutside : MethodName := ⟨RX10, "addLiveFromOutside", "(LFarHold$Walk;)V"⟩
abbrev cX10_revive : ByteArray := prog_1_method_47_code
def yX10_revive : MethodName := ⟨RX10, "revive", "(LFarHold$Walk;LFarHold$Thing;)V"⟩
abbrev cX10_bringAlive : ByteArray := prog_1_method_48_code
def yX10_bringAlive : MethodName := ⟨RX10, "bringAlive", "(LFarHold$Thing;)V"⟩
abbrev cX10_findKept : ByteArray := prog_1_method_49_code
def yX10_findKept : MethodName := ⟨RX10, "findKept", "(I)V"⟩
abbrev cX10_gatesToFree : ByteArray := prog_1_method_50_code
def yX10_gatesToFree : MethodName := ⟨RX10, "gatesToFree", "(I)I"⟩
abbrev cX10_free : ByteArray := prog_1_method_51_code
def yX10_free : MethodName := ⟨RX10, "free", "(LFarHold$Thing;)V"⟩
def RX11 : String := "FarHoldModel"
def TX11 : u_T := fun k => match k with
  | 0 => ("FarHoldModel", "kind", "[I", true)
  | 1 => ("FarHoldModel", "host", "[I", true)
  | 2 => ("FarHoldModel", "mark", "[I", true)
  | 3 => ("FarHoldModel", "places", "[I", true)
  | 4 => ("FarHoldModel", "exit", "[I", true)
  | 5 => ("FarHoldModel", "of", "[I", true)
  | 6 => ("FarHoldModel", "weight", "[I", true)
  | 7 => ("FarHoldModel", "gone", "[Z", true)
  | 8 => ("FarHoldModel", "broken", "[Z", true)
  | 9 => ("FarHoldModel", "things", "I", false)
  | 10 => ("FarHoldModel", "holds", "[I", true)
  | 11 => ("FarHoldModel", "what", "[I", true)
  | 12 => ("FarHoldModel", "sizes", "[I", true)
  | 13 => ("FarHoldModel", "elements", "[J", true)
  | 14 => ("FarHoldModel", "lKind", "[I", true)
  | 15 => ("FarHoldModel", "lTo", "[I", true)
  | 16 => ("FarHoldModel", "lFrom", "[I", true)
  | 17 => ("FarHoldModel", "lThing", "[I", true)
  | 18 => ("FarHoldModel", "lWeight", "[I", true)
  | 19 => ("FarHoldModel", "lRoot", "[I", true)
  | 20 => ("FarHoldModel", "lPlace", "[I", true)
  | 21 => ("FarHoldModel", "lWalk", "[I", true)
  | 22 => ("FarHoldModel", "lSteps", "[I", true)
  | 23 => ("FarHoldModel", "isUnder", "[Z", true)
  | 24 => ("FarHoldModel", "letters", "I", false)
  | 25 => ("FarHoldModel", "again", "I", false)
  | 26 => ("FarHoldModel", "waitGate", "[I", true)
  | 27 => ("FarHoldModel", "waitRoot", "[I", true)
  | 28 => ("FarHoldModel", "waitPlace", "[I", true)
  | 29 => ("FarHoldModel", "waits", "I", false)
  | 30 => ("FarHoldModel", "counts", "[I", true)
  | 31 => ("FarHoldModel", "refusals", "[I", true)
  | 32 => ("FarHoldModel", "freedList", "[I", true)
  | 33 => ("FarHoldModel", "freedMany", "I", false)
  | 34 => ("FarHoldModel", "leads", "[Z", true)
  | 35 => ("FarHoldModel", "near", "[Z", true)
  | 36 => ("FarHoldModel", "row", "[I", true)
  | 37 => ("FarHoldModel", "wEnd", "[I", true)
  | 38 => ("FarHoldModel", "wFrom", "[I", true)
  | 39 => ("FarHoldModel", "wBack", "[I", true)
  | 40 => ("FarHoldModel", "wSteps", "[I", true)
  | 41 => ("FarHoldModel", "wCount", "[I", true)
  | 42 => ("FarHoldModel", "wNoted", "[Z", true)
  | 43 => ("FarHoldModel", "wRooted", "[Z", true)
  | 44 => ("FarHoldModel", "wWeight", "[I", true)
  | 45 => ("FarHoldModel", "wHeld", "[J", true)
  | 46 => ("FarHoldModel", "walks", "I", false)
  | 47 => ("FarHoldModel", "alive", "[Z", true)
  | 48 => ("FarHoldModel", "isMet", "[Z", true)
  | _ => ("FarHoldModel", "far", "[I", true)
def tyX11 : Nat → FieldType := fun k => match k with
  | 0 => .array .int
  | 1 => .array .int
  | 2 => .array .int
  | 3 => .array .int
  | 4 => .array .int
  | 5 => .array .int
  | 6 => .array .int
  | 7 => .array .boolean
  | 8 => .array .boolean
  | 9 => .int
  | 10 => .array .int
  | 11 => .array .int
  | 12 => .array .int
  | 13 => .array .long
  | 14 => .array .int
  | 15 => .array .int
  | 16 => .array .int
  | 17 => .array .int
  | 18 => .array .int
  | 19 => .array .int
  | 20 => .array .int
  | 21 => .array .int
  | 22 => .array .int
  | 23 => .array .boolean
  | 24 => .int
  | 25 => .int
  | 26 => .array .int
  | 27 => .array .int
  | 28 => .array .int
  | 29 => .int
  | 30 => .array .int
  | 31 => .array .int
  | 32 => .array .int
  | 33 => .int
  | 34 => .array .boolean
  | 35 => .array .boolean
  | 36 => .array .int
  | 37 => .array .int
  | 38 => .array .int
  | 39 => .array .int
  | 40 => .array .int
  | 41 => .array .int
  | 42 => .array .boolean
  | 43 => .array .boolean
  | 44 => .array .int
  | 45 => .array .long
  | 46 => .int
  | 47 => .array .boolean
  | 48 => .array .boolean
  | _ => .array .int
theorem nmX11 : ∀ a, a < 50 → ∀ b, b < 50 → a ≠ b → (TX11 a).2.1 ≠ (TX11 b).2.1 := by decide +kernel
theorem tyX11_ok : ∀ k, k < 50 → parseFieldDescriptor (TX11 k).2.2.1 = some (tyX11 k) := by decide +kernel
abbrev cX11_init : ByteArray := prog_13_method_1_code
def yX11_init : MethodName := ⟨RX11, "<init>", "()V"⟩
abbrev cX11_refuse : ByteArray := prog_13_method_2_code
def yX11_refuse : MethodName := ⟨RX11, "refuse", "(I)I"⟩
abbrev cX11_isIn : ByteArray := prog_13_method_3_code
def yX11_isIn : MethodName := ⟨RX11, "isIn", "(II)Z"⟩
abbrev cX11_isThere : ByteArray := prog_13_method_4_code
def yX11_isThere : MethodName := ⟨RX11, "isThere", "(I)Z"⟩
abbrev cX11_hasPlaces : ByteArray := prog_13_method_5_code
def yX11_hasPlaces : MethodName := ⟨RX11, "hasPlaces", "(I)Z"⟩
abbrev cX11_noLeads : ByteArray := prog_13_method_6_code
def yX11_noLeads : MethodName := ⟨RX11, "noLeads", "()V"⟩
abbrev cX11_lead : ByteArray := prog_13_method_7_code
def yX11_lead : MethodName := ⟨RX11, "lead", "(I)V"⟩
abbrev cX11_isNear : ByteArray := prog_13_method_8_code
def yX11_isNear : MethodName := ⟨RX11, "isNear", "(I)Z"⟩
abbrev cX11_isWaited : ByteArray := prog_13_method_9_code
def yX11_isWaited : MethodName := ⟨RX11, "isWaited", "(I)Z"⟩
abbrev cX11_isRooted : ByteArray := prog_13_method_10_code
def yX11_isRooted : MethodName := ⟨RX11, "isRooted", "(I)Z"⟩
abbrev cX11_holdsOut : ByteArray := prog_13_method_11_code
def yX11_holdsOut : MethodName := ⟨RX11, "holdsOut", "(I)Z"⟩
abbrev cX11_gateOf : ByteArray := prog_13_method_12_code
def yX11_gateOf : MethodName := ⟨RX11, "gateOf", "(II)I"⟩
abbrev cX11_make : ByteArray := prog_13_method_13_code
def yX11_make : MethodName := ⟨RX11, "make", "(III)I"⟩
abbrev cX11_lay : ByteArray := prog_13_method_14_code
def yX11_lay : MethodName := ⟨RX11, "lay", "(III)V"⟩
abbrev cX11_root : ByteArray := prog_13_method_15_code
def yX11_root : MethodName := ⟨RX11, "root", "(II)I"⟩
abbrev cX11_place : ByteArray := prog_13_method_16_code
def yX11_place : MethodName := ⟨RX11, "place", "(II)I"⟩
abbrev cX11_leaf : ByteArray := prog_13_method_17_code
def yX11_leaf : MethodName := ⟨RX11, "leaf", "(III)I"⟩
abbrev cX11_box : ByteArray := prog_13_method_18_code
def yX11_box : MethodName := ⟨RX11, "box", "(III)I"⟩
abbrev cX11_put : ByteArray := prog_13_method_19_code
def yX11_put : MethodName := ⟨RX11, "put", "(III)I"⟩
abbrev cX11_clear : ByteArray := prog_13_method_20_code
def yX11_clear : MethodName := ⟨RX11, "clear", "(II)I"⟩
abbrev cX11_row : ByteArray := prog_13_method_21_code
def yX11_row : MethodName := ⟨RX11, "row", "(IIII)I"⟩
abbrev cX11_low : ByteArray := prog_13_method_22_code
def yX11_low : MethodName := ⟨RX11, "low", "(IJ)J"⟩
abbrev cX11_set : ByteArray := prog_13_method_23_code
def yX11_set : MethodName := ⟨RX11, "set", "(IIIJ)I"⟩
abbrev cX11_copy : ByteArray := prog_13_method_24_code
def yX11_copy : MethodName := ⟨RX11, "copy", "(IIIII)I"⟩
abbrev cX11_element : ByteArray := prog_13_method_25_code
def yX11_element : MethodName := ⟨RX11, "element", "(III)J"⟩
abbrev cX11_holds : ByteArray := prog_13_method_26_code
def yX11_holds : MethodName := ⟨RX11, "holds", "(II)I"⟩
abbrev cX11_thing : ByteArray := prog_13_method_27_code
def yX11_thing : MethodName := ⟨RX11, "thing", "(II)I"⟩
abbrev cX11_gate : ByteArray := prog_13_method_28_code
def yX11_gate : MethodName := ⟨RX11, "gate", "(II)I"⟩
abbrev cX11_letter : ByteArray := prog_13_method_29_code
def yX11_letter : MethodName := ⟨RX11, "letter", "(IIIII)I"⟩
abbrev cX11_name : ByteArray := prog_13_method_30_code
def yX11_name : MethodName := ⟨RX11, "name", "(IIIII)I"⟩
abbrev cX11_half : ByteArray := prog_13_method_31_code
def yX11_half : MethodName := ⟨RX11, "half", "(III)I"⟩
abbrev cX11_send : ByteArray := prog_13_method_32_code
def yX11_send : MethodName := ⟨RX11, "send", "(III)I"⟩
abbrev cX11_takes : ByteArray := prog_13_method_33_code
def yX11_takes : MethodName := ⟨RX11, "takes", "(II)V"⟩
abbrev cX11_sends : ByteArray := prog_13_method_34_code
def yX11_sends : MethodName := ⟨RX11, "sends", "(I)I"⟩
abbrev cX11_deliver : ByteArray := prog_13_method_35_code
def yX11_deliver : MethodName := ⟨RX11, "deliver", "(I)I"⟩
abbrev cX11_named : ByteArray := prog_13_method_36_code
def yX11_named : MethodName := ⟨RX11, "named", "(III)V"⟩
abbrev cX11_given : ByteArray := prog_13_method_37_code
def yX11_given : MethodName := ⟨RX11, "given", "(II)V"⟩
abbrev cX11_letter_ : ByteArray := prog_13_method_38_code
def yX11_letter_ : MethodName := ⟨RX11, "letter", "(II)I"⟩
abbrev cX11_clean : ByteArray := prog_13_method_39_code
def yX11_clean : MethodName := ⟨RX11, "clean", "(I)I"⟩
abbrev cX11_freed : ByteArray := prog_13_method_40_code
def yX11_freed : MethodName := ⟨RX11, "freed", "(I)I"⟩
abbrev cX11_doubt : ByteArray := prog_13_method_41_code
def yX11_doubt : MethodName := ⟨RX11, "doubt", "(I)I"⟩
abbrev cX11_gatesToMeet : ByteArray := prog_13_method_42_code
def yX11_gatesToMeet : MethodName := ⟨RX11, "gatesToMeet", "(II)I"⟩
abbrev cX11_note : ByteArray := prog_13_method_43_code
def yX11_note : MethodName := ⟨RX11, "note", "(II)V"⟩
abbrev cX11_stepped : ByteArray := prog_13_method_44_code
def yX11_stepped : MethodName := ⟨RX11, "stepped", "(I)V"⟩
abbrev cX11_backs : ByteArray := prog_13_method_45_code
def yX11_backs : MethodName := ⟨RX11, "backs", "(I)V"⟩
abbrev cX11_isHeld : ByteArray := prog_13_method_46_code
def yX11_isHeld : MethodName := ⟨RX11, "isHeld", "(II)Z"⟩
abbrev cX11_becomesAlive : ByteArray := prog_13_method_47_code
def yX11_becomesAlive : MethodName := ⟨RX11, "becomesAlive", "(II)Z"⟩
abbrev cX11_isAlive : ByteArray := prog_13_method_48_code
def yX11_isAlive : MethodName := ⟨RX11, "isAlive", "(II)Z"⟩
abbrev cX11_walk : ByteArray := prog_13_method_49_code
def yX11_walk : MethodName := ⟨RX11, "walk", "(II)I"⟩
abbrev cX11_goes : ByteArray := prog_13_method_50_code
def yX11_goes : MethodName := ⟨RX11, "goes", "(II)Z"⟩
abbrev cX11_measure : ByteArray := prog_13_method_51_code
def yX11_measure : MethodName := ⟨RX11, "measure", "(I)V"⟩
abbrev cX11_rootFor : ByteArray := prog_13_method_52_code
def yX11_rootFor : MethodName := ⟨RX11, "rootFor", "()I"⟩
abbrev cX11_meant : ByteArray := prog_13_method_53_code
def yX11_meant : MethodName := ⟨RX11, "meant", "(I)Z"⟩
abbrev cX11_why : ByteArray := prog_13_method_54_code
def yX11_why : MethodName := ⟨RX11, "why", "(II)I"⟩
abbrev cX11_dead : ByteArray := prog_13_method_55_code
def yX11_dead : MethodName := ⟨RX11, "dead", "(I)I"⟩
abbrev cX11_marksMeant : ByteArray := prog_13_method_56_code
def yX11_marksMeant : MethodName := ⟨RX11, "marksMeant", "()V"⟩
abbrev cX11_audit : ByteArray := prog_13_method_57_code
def yX11_audit : MethodName := ⟨RX11, "audit", "(II)I"⟩
abbrev cX11_status : ByteArray := prog_13_method_58_code
def yX11_status : MethodName := ⟨RX11, "status", "(I)I"⟩
def RJ9 : String := "java/lang/Math"
def TJ9 : u_T := fun k => match k with
  | _ => ("", "", "", false)
def tyJ9 : Nat → FieldType := fun k => match k with
  | _ => .int
theorem nmJ9 : ∀ a, a < 0 → ∀ b, b < 0 → a ≠ b → (TJ9 a).2.1 ≠ (TJ9 b).2.1 := by decide +kernel
theorem tyJ9_ok : ∀ k, k < 0 → parseFieldDescriptor (TJ9 k).2.2.1 = some (tyJ9 k) := by decide +kernel
abbrev cJ9_max_7cf53 : ByteArray := prog_14_method_65_code
def yJ9_max_7cf53 : MethodName := ⟨RJ9, "max", "(II)I"⟩
abbrev cJ9_min_7cf53 : ByteArray := prog_14_method_69_code
def yJ9_min_7cf53 : MethodName := ⟨RJ9, "min", "(II)I"⟩
def RJ10 : String := "java/lang/System"
def TJ10 : u_T := fun k => match k with
  | _ => ("", "", "", false)
def tyJ10 : Nat → FieldType := fun k => match k with
  | _ => .int
theorem nmJ10 : ∀ a, a < 0 → ∀ b, b < 0 → a ≠ b → (TJ10 a).2.1 ≠ (TJ10 b).2.1 := by decide +kernel
theorem tyJ10_ok : ∀ k, k < 0 → parseFieldDescriptor (TJ10 k).2.2.1 = some (tyJ10 k) := by decide +kernel
def RL : String := "FarHoldLaw"
abbrev cL_law : ByteArray := code
def yL_law : MethodName := ⟨RL, "law", "([I)Z"⟩
abbrev vwCl : List vw_C := [(RX0, TX0, 10), (RX1, TX1, 5), (RX2, TX2, 2), (RX3, TX3, 3), (RX4, TX4, 2), (RX5, TX5, 11), (RX6, TX6, 2), (RX7, TX7, 2), (RX8, TX8, 3), (RX9, TX9, 11), (RX10, TX10, 13), (RX11, TX11, 50)]
end
section
/-! A heap by typed functions: what an address holds, by the kind of its cell. Kinds 0 to 11: the objects of vwCl; 12 ints, 13 longs, 14 booleans, 15 to 19 arrays of references. -/
abbrev Hz : Type := (Nat → Nat → Int32) × (Nat → Nat → Int64) × (Nat → Nat → Option Nat) × (Nat → Nat) × (Nat → Nat) × Nat
abbrev zI (h : Hz) : Nat → Nat → Int32 := h.1
abbrev zL (h : Hz) : Nat → Nat → Int64 := h.2.1
abbrev zP (h : Hz) : Nat → Nat → Option Nat := h.2.2.1
abbrev zT (h : Hz) : Nat → Nat := h.2.2.2.1
abbrev zN (h : Hz) : Nat → Nat := h.2.2.2.2.1
abbrev zs (h : Hz) : Nat := h.2.2.2.2.2
def zu {α : Type} (f : Nat → Nat → α) (a k : Nat) (v : α) : Nat → Nat → α := fun b j => if b = a ∧ j = k then v else f b j
theorem zu_off {α : Type} {f : Nat → Nat → α} {a k b : Nat} {v : α} (h : b ≠ a) : zu f a k v b = f b := by
  funext j
  simp [zu, h]
theorem zu_at {α : Type} {f : Nat → Nat → α} {a k : Nat} {v : α} : zu f a k v a = fun j => if j = k then v else f a j := by
  funext j
  simp [zu]
def zwI (a k : Nat) (v : Int32) (h : Hz) : Hz := (zu h.1 a k v, h.2)
def zwL (a k : Nat) (v : Int64) (h : Hz) : Hz := (h.1, zu h.2.1 a k v, h.2.2)
def zwP (a k : Nat) (v : Option Nat) (h : Hz) : Hz := (h.1, h.2.1, zu h.2.2.1 a k v, h.2.2.2)
/-- a new cell of kind t and length n at the heap's end -/
def znew (t n : Nat) (h : Hz) : Hz := (va_up h.1 (zs h) (fun _ => 0), va_up h.2.1 (zs h) (fun _ => 0), va_up h.2.2.1 (zs h) (fun _ => none), va_up (zT h) (zs h) t, va_up (zN h) (zs h) n, zs h + 1)
/-- the fields: how many, which are references -/
def nF (c : Nat) : Nat := match c with
  | 0 => 10
  | 1 => 5
  | 2 => 2
  | 3 => 3
  | 4 => 2
  | 5 => 11
  | 6 => 2
  | 7 => 2
  | 8 => 3
  | 9 => 11
  | 10 => 13
  | _ => 50
def rF (c : Nat) : List Nat := match c with
  | 0 => [3, 5, 7]
  | 1 => [0, 1, 2, 3]
  | 2 => [0]
  | 3 => [0, 1]
  | 4 => [1]
  | 5 => [3, 4, 6]
  | 6 => [0]
  | 7 => [0]
  | 8 => [0, 1]
  | 9 => [1, 2, 3, 4, 5]
  | 10 => [0, 1, 2, 3, 4, 5, 6, 7, 8, 9]
  | _ => (List.range 50).filter (fun k => !(k == 9 || k == 24 || k == 25 || k == 29 || k == 33 || k == 46))
def isR (c k : Nat) : Bool := (rF c).contains k
def fv (h : Hz) (a c k : Nat) : Value := if isR c k = true then va_rf (zP h a k) else .int (zI h a k)
def zF (h : Hz) (a : Nat) : List Value := (List.range (nF (zT h a))).map (fv h a (zT h a))
def zE (cy : Nat → ClassId) (h : Hz) (a : Nat) : va_E :=
  if zT h a < 12 then .inr (zT h a, zF h a)
  else if zT h a = 13 then .inl (cy 1, zN h a, .inr (.inl (zL h a)))
  else if zT h a < 15 then .inl (cy (zT h a - 12), zN h a, .inl (zI h a))
  else .inl (cy (zT h a - 12), zN h a, .inr (.inr (.inr (.inr (zP h a)))))
/-- the heap is as the functions say, at every address that has a kind -/
def zW (A : Nat → Prop) (cy : Nat → ClassId) (D : va_G) (h : Hz) (H : Heap) : Prop := H.size = zs h ∧ ∀ a : Nat, zT h a < 20 → A a ∧ a < zs h ∧ va_at D vwCl (a, zE cy h a) H
abbrev zty (cy : Nat → ClassId) : List (ClassId × FieldType) := [(cy 0, .int), (cy 1, .long), (cy 2, .boolean), (cy 3, .object "FarHold$Letter"), (cy 4, .object "FarHold$Row"), (cy 5, .object "FarHold$Thing"), (cy 6, .object "FarHold$WaitingName"), (cy 7, .object "FarHold$Walk")]
abbrev zK (D : va_G) (cy : Nat → ClassId) (U : State) : Prop := va_K D vwCl (zty cy) U
/-- links to the constructors of nest mates, and the arrays over the own classes -/
def zNest (U : State) : Prop := (va_Nw (.methodLinkNest RX10 9 yX6_init RX10) U ∧ va_Nw (.methodLinkNest RX10 18 yX2_init RX10) U ∧ va_Nw (.methodLinkNest RX10 25 yX7_init RX10) U ∧ va_Nw (.methodLinkNest RX10 48 yX3_init RX10) U ∧ va_Nw (.methodLinkNest RX10 58 yX1_init RX10) U ∧ va_Nw (.methodLinkNest RX1 11 yX3_init RX10) U) ∧ va_AO "FarHold$Letter" U ∧ va_AO "FarHold$Row" U ∧ va_AO "FarHold$Thing" U ∧ va_AO "FarHold$WaitingName" U ∧ va_AO "FarHold$Walk" U
theorem zNest.warm {s U : State} (hW : s.WarmedH U.vm) (h : zNest s) : zNest U := by
  obtain ⟨⟨h1, h2, h3, h4, h5, h6⟩, g1, g2, g3, g4, g5⟩ := h
  exact ⟨⟨h1.warmM hW, h2.warmM hW, h3.warmM hW, h4.warmM hW, h5.warmM hW, h6.warmM hW⟩, g1.moved hW.alike, g2.moved hW.alike, g3.moved hW.alike, g4.moved hW.alike, g5.moved hW.alike⟩
theorem zNest.same {u U : State} (h : u.vm = U.vm) (hz : zNest u) : zNest U := by
  obtain ⟨⟨h1, h2, h3, h4, h5, h6⟩, g1, g2, g3, g4, g5⟩ := hz
  have ha : u.vm.Alike U.vm := by rw [h]; exact Vm.Alike.refl U.vm
  exact ⟨⟨h1.same rfl h, h2.same rfl h, h3.same rfl h, h4.same rfl h, h5.same rfl h, h6.same rfl h⟩, g1.moved ha, g2.moved ha, g3.moved ha, g4.moved ha, g5.moved ha⟩
/-- a contract's start, and its end -/
def zS (A : Nat → Prop) (D : va_G) (cy : Nat → ClassId) (h : Hz) (U : State) : Prop := zW A cy D h U.heap ∧ zK D cy U ∧ zNest U ∧ ∀ q : Nat, U.heap.size ≤ q → A q
def zB (A : Nat → Prop) (D : va_G) (cy : Nat → ClassId) (h : Hz) (U : State) : Prop := zW A cy D h U.heap
theorem zS_blind (A : Nat → Prop) (D : va_G) (cy : Nat → ClassId) (h : Hz) (av : List Value) : FrameBlind (va_Pc av (zS A D cy h)) := by
  intro a U g mk q
  obtain ⟨q0, q1, q2, q3, q4⟩ := q
  exact ⟨q0, q1, va_K.moved (u := U) (U := U.calling g mk a) (Vm.Alike.refl U.vm) q2, q3.same (U := U.calling g mk a) rfl, q4⟩
/-- what a method's body stands on -/
def zX (A : Nat → Prop) (D : va_G) (cy : Nat → ClassId) (p : Program) (s : State) (m : MethodId) (args : Array Value) (c : Code) (cc : ByteArray) (own : String) (nL : Nat) : Prop :=
  p.tables.exec = Jvm.exec ∧ c.code = cc ∧ (∀ w ∈ wT, w.before args s = true) ∧ s.vm.findClass own = some m.cls ∧ zK D cy s ∧ c.maxLocals = nL ∧ zNest s ∧ ∀ q : Nat, s.heap.size ≤ q → A q
/-- a kind of objects: its names, its words -/
def zC (ci : Nat) (C : String) (T : u_T) (N : Nat) (ty : Nat → FieldType) : Prop := vwCl[ci]? = some (C, T, N) ∧ (∀ w ∈ u_ws C T N, w ∈ wT) ∧ ci < 12 ∧ nF ci = N ∧ (∀ k, k < N → parseFieldDescriptor (T k).2.2.1 = some (ty k)) ∧ (∀ a, a < N → ∀ b, b < N → a ≠ b → (T a).2.1 ≠ (T b).2.1)
/-! the operations -/
def gI (c k a : Nat) (h : Hz) : Option Int32 := if zT h a = c then some (zI h a k) else none
def gP (c k a : Nat) (h : Hz) : Option (Option Nat) := if zT h a = c then some (zP h a k) else none
def pI (c k a : Nat) (v : Int32) (h : Hz) : Option Hz := if zT h a = c then some (zwI a k v h) else none
def pZ (c k a : Nat) (v : Int32) (h : Hz) : Option Hz := if zT h a = c ∧ (v = 0 ∨ v = 1) then some (zwI a k v h) else none
def pP (c k a : Nat) (v : Option Nat) (h : Hz) : Option Hz := if zT h a = c then some (zwP a k v h) else none
def xI (t a : Nat) (i : Int32) (h : Hz) : Option Int32 := if zT h a = t ∧ ¬ (i < 0 ∨ zN h a ≤ i.toNatClampNeg) then some (zI h a i.toNatClampNeg) else none
def yI (a : Nat) (i v : Int32) (h : Hz) : Option Hz := if zT h a = 12 ∧ ¬ (i < 0 ∨ zN h a ≤ i.toNatClampNeg) then some (zwI a i.toNatClampNeg v h) else none
def yZ (a : Nat) (i v : Int32) (h : Hz) : Option Hz := if zT h a = 14 ∧ ¬ (i < 0 ∨ zN h a ≤ i.toNatClampNeg) then some (zwI a i.toNatClampNeg (vp_nar .boolean v) h) else none
def xL (a : Nat) (i : Int32) (h : Hz) : Option Int64 := if zT h a = 13 ∧ ¬ (i < 0 ∨ zN h a ≤ i.toNatClampNeg) then some (zL h a i.toNatClampNeg) else none
def yL (a : Nat) (i : Int32) (v : Int64) (h : Hz) : Option Hz := if zT h a = 13 ∧ ¬ (i < 0 ∨ zN h a ≤ i.toNatClampNeg) then some (zwL a i.toNatClampNeg v h) else none
def xP (t a : Nat) (i : Int32) (h : Hz) : Option (Option Nat) := if zT h a = t ∧ ¬ (i < 0 ∨ zN h a ≤ i.toNatClampNeg) then some (zP h a i.toNatClampNeg) else none
def yP (t ce a : Nat) (i : Int32) (v : Option Nat) (h : Hz) : Option Hz := if zT h a = t ∧ ¬ (i < 0 ∨ zN h a ≤ i.toNatClampNeg) ∧ v.all (fun b => zT h b == ce) = true then some (zwP a i.toNatClampNeg v h) else none
def xN (t a : Nat) (h : Hz) : Option Int32 := if zT h a = t then some (Int32.ofNat (zN h a)) else none
def nO (c : Nat) (h : Hz) : Option (Nat × Hz) := some (zs h, znew c 0 h)
def nA (t B : Nat) (n : Int32) (h : Hz) : Option (Nat × Hz) := if ¬ n < 0 ∧ n.toNatClampNeg ≤ B then some (zs h, znew t n.toNatClampNeg h) else none
/-- System.arraycopy of longs -/
def cL (a0 : Nat) (sp : Int32) (a : Nat) (dp n : Int32) (h : Hz) : Option Hz :=
  if zT h a0 = 13 ∧ zT h a = 13 ∧ ¬ sp < 0 ∧ ¬ dp < 0 ∧ ¬ n < 0 ∧ sp.toNatClampNeg + n.toNatClampNeg ≤ zN h a0 ∧ dp.toNatClampNeg + n.toNatClampNeg ≤ zN h a then some (h.1, va_up h.2.1 a (va_cpy (zL h a0) (zL h a) sp.toNatClampNeg dp.toNatClampNeg n.toNatClampNeg), h.2.2) else none
def tg (c a : Nat) (h : Hz) : Option Nat := if zT h a = c then some a else none
def b1 {α β : Type} (x : Option α) (k : α → Option β) : Option β := x.bind k
def b2 {α β : Type} (x : Option (α × Hz)) (k : α → Hz → Option β) : Option β := x.bind fun q => k q.1 q.2
def oe {β : Type} (r : Option Nat) (a : Option β) (b : Nat → Option β) : Option β := match r with
  | none => a
  | some x => b x
theorem b1_some {α β : Type} {x : Option α} {k : α → Option β} {y : β} (h : b1 x k = some y) : ∃ a, x = some a ∧ k a = some y := by
  cases x with
  | none => cases h
  | some a => exact ⟨a, rfl, h⟩
theorem b2_some {α β : Type} {x : Option (α × Hz)} {k : α → Hz → Option β} {y : β} (h : b2 x k = some y) : ∃ a s, x = some (a, s) ∧ k a s = some y := by
  cases x with
  | none => cases h
  | some a => exact ⟨a.1, a.2, rfl, h⟩
theorem oe_n {β : Type} {a : Option β} {b : Nat → Option β} {y : β} (h : oe none a b = some y) : a = some y := h
theorem oe_s {β : Type} {a : Option β} {b : Nat → Option β} {y : β} {x : Nat} (h : oe (some x) a b = some y) : b x = some y := h
theorem it_t {c : Prop} {d : Decidable c} {β : Type} {a b : Option β} {y : β} (h : (if c then a else b) = some y) (hc : c) : a = some y := by rwa [if_pos hc] at h
theorem it_f {c : Prop} {d : Decidable c} {β : Type} {a b : Option β} {y : β} (h : (if c then a else b) = some y) (hc : ¬ c) : b = some y := by rwa [if_neg hc] at h
theorem it_s {c : Prop} {d : Decidable c} {β : Type} {a : Option β} {y : β} (h : (if c then a else none) = some y) : c ∧ a = some y := by
  by_cases hc : c
  · exact ⟨hc, by rwa [if_pos hc] at h⟩
  · rw [if_neg hc] at h
    cases h
theorem it_v {c : Prop} {d : Decidable c} {β : Type} {a y : β} (h : (if c then some a else none) = some y) : c ∧ a = y := ⟨(it_s h).1, Option.some.inj (it_s h).2⟩
/-! the heap's rows -/
theorem zE_obj {cy : Nat → ClassId} {h : Hz} {a c : Nat} (ht : zT h a = c) (hc : c < 12) : zE cy h a = .inr (c, zF h a) := by
  subst ht
  simp only [zE, if_pos hc]
theorem zF_get {h : Hz} {a c k : Nat} (ht : zT h a = c) (hk : k < nF c) : (zF h a)[k]? = some (fv h a c k) := by
  subst ht
  simp [zF, hk]
theorem zF_len {h : Hz} {a c : Nat} (ht : zT h a = c) : (zF h a).length = nF c := by
  subst ht
  simp [zF]
theorem zE_int {cy : Nat → ClassId} {h : Hz} {a : Nat} (ht : zT h a = 12) : zE cy h a = .inl (cy 0, zN h a, .inl (zI h a)) := by simp [zE, ht]
theorem zE_bool {cy : Nat → ClassId} {h : Hz} {a : Nat} (ht : zT h a = 14) : zE cy h a = .inl (cy 2, zN h a, .inl (zI h a)) := by simp [zE, ht]
theorem zE_long {cy : Nat → ClassId} {h : Hz} {a : Nat} (ht : zT h a = 13) : zE cy h a = .inl (cy 1, zN h a, .inr (.inl (zL h a))) := by simp [zE, ht]
theorem zE_ref {cy : Nat → ClassId} {h : Hz} {a t : Nat} (ht : zT h a = t) (h1 : 15 ≤ t) : zE cy h a = .inl (cy (t - 12), zN h a, .inr (.inr (.inr (.inr (zP h a))))) := by
  subst ht
  simp only [zE, if_neg (show ¬ zT h a < 12 by omega), if_neg (show ¬ zT h a = 13 by omega), if_neg (show ¬ zT h a < 15 by omega)]
def zOff (a : Nat) (h h' : Hz) : Prop := h'.2.2.2 = h.2.2.2 ∧ ∀ b, b ≠ a → zI h' b = zI h b ∧ zL h' b = zL h b ∧ zP h' b = zP h b
theorem zE_off {cy : Nat → ClassId} {a b : Nat} {h h' : Hz} (ho : zOff a h h') (hb : b ≠ a) : zE cy h' b = zE cy h b := by
  obtain ⟨h1, h2⟩ := ho
  obtain ⟨e1, e2, e3⟩ := h2 b hb
  have eT : zT h' b = zT h b := by simp only [zT, h1]
  have eN : zN h' b = zN h b := by simp only [zN, h1]
  have hf : zF h' b = zF h b := by
    simp only [zF, eT]
    apply List.map_congr_left
    intro k _
    simp only [fv, e1, e3]
  simp only [zE, hf, eT, eN, e1, e2, e3]
theorem zW_upd {A : Nat → Prop} {cy : Nat → ClassId} {D : va_G} {a : Nat} {h h' : Hz} {H H' : Heap} (hW : zW A cy D h H) (ho : zOff a h h') (hz : H'.size = H.size) (hq : ∀ q : Nat, q ≠ a → H'[q]? = H[q]?) (hat : va_at D vwCl (a, zE cy h' a) H') : zW A cy D h' H' := by
  obtain ⟨h1, h2⟩ := hW
  refine ⟨by rw [hz, h1]; show zs h = zs h'; simp only [zs]; rw [ho.1], fun b hb => ?_⟩
  have hb' : zT h b < 20 := by
    have : zT h' b = zT h b := by simp only [zT]; rw [ho.1]
    omega
  obtain ⟨g1, g2, g3⟩ := h2 b hb'
  refine ⟨g1, by show b < zs h'; simp only [zs]; rw [ho.1]; exact g2, ?_⟩
  by_cases e : b = a
  · subst e
    exact hat
  · rw [zE_off ho e]
    exact g3.kept (hq b e)
theorem zwI_off (a k : Nat) (v : Int32) (h : Hz) : zOff a h (zwI a k v h) := ⟨rfl, fun b hb => ⟨zu_off hb, rfl, rfl⟩⟩
theorem zwL_off (a k : Nat) (v : Int64) (h : Hz) : zOff a h (zwL a k v h) := ⟨rfl, fun b hb => ⟨rfl, zu_off hb, rfl⟩⟩
theorem zwP_off (a k : Nat) (v : Option Nat) (h : Hz) : zOff a h (zwP a k v h) := ⟨rfl, fun b hb => ⟨rfl, rfl, zu_off hb⟩⟩
theorem zF_wI {h : Hz} {a c k : Nat} (v : Int32) (ht : zT h a = c) (hr : isR c k = false) : zF (zwI a k v h) a = (zF h a).set k (.int v) := by
  subst ht
  apply List.ext_getElem?
  intro j
  simp only [zF, List.getElem?_set, List.length_map, List.length_range]
  by_cases hj : j < nF (zT h a)
  · by_cases e : k = j
    · subst e
      simp [zwI, zI, zP, zT, zN, zs, hj, fv, hr, zu_at]
    · simp [zwI, zI, zP, zT, zN, zs, hj, e, fv, zu_at, Ne.symm e]
  · by_cases e : k = j
    · subst e
      simp [zwI, zT, hj]
    · simp [zwI, zT, hj, e]
theorem zF_wP {h : Hz} {a c k : Nat} (v : Option Nat) (ht : zT h a = c) (hr : isR c k = true) : zF (zwP a k v h) a = (zF h a).set k (va_rf v) := by
  subst ht
  apply List.ext_getElem?
  intro j
  simp only [zF, List.getElem?_set, List.length_map, List.length_range]
  by_cases hj : j < nF (zT h a)
  · by_cases e : k = j
    · subst e
      simp [zwP, zI, zP, zT, zN, zs, hj, fv, hr, zu_at]
    · simp [zwP, zI, zP, zT, zN, zs, hj, e, fv, zu_at, Ne.symm e]
  · by_cases e : k = j
    · subst e
      simp [zwP, zT, hj]
    · simp [zwP, zT, hj, e]
theorem znew_at {h : Hz} {t n b : Nat} (hb : b ≠ zs h) (cy : Nat → ClassId) : zE cy (znew t n h) b = zE cy h b ∧ zT (znew t n h) b = zT h b := by
  have e0 : zT (znew t n h) b = zT h b := va_up_ne _ _ hb
  have e1 : zI (znew t n h) b = zI h b := va_up_ne _ _ hb
  have e2 : zL (znew t n h) b = zL h b := va_up_ne _ _ hb
  have e3 : zP (znew t n h) b = zP h b := va_up_ne _ _ hb
  have e4 : zN (znew t n h) b = zN h b := va_up_ne _ _ hb
  have hf : zF (znew t n h) b = zF h b := by
    simp only [zF, e0]
    apply List.map_congr_left
    intro k _
    simp only [fv, e1, e3]
  refine ⟨?_, e0⟩
  simp only [zE, hf, e0, e1, e2, e3, e4]
theorem zW_new {A : Nat → Prop} {cy : Nat → ClassId} {D : va_G} {t n : Nat} {h : Hz} {H H' : Heap} (hW : zW A cy D h H) (hA : A H.size) (hz : H'.size = H.size + 1) (hq : ∀ q : Nat, q < H.size → H'[q]? = H[q]?) (hat : va_at D vwCl (zs h, zE cy (znew t n h) (zs h)) H') : zW A cy D (znew t n h) H' := by
  obtain ⟨h1, h2⟩ := hW
  refine ⟨by rw [hz, h1]; rfl, fun b hb => ?_⟩
  by_cases e : b = zs h
  · subst e
    exact ⟨by rw [← h1]; exact hA, by show zs h < zs h + 1; omega, hat⟩
  · obtain ⟨e1, e2⟩ := znew_at (t := t) (n := n) e cy
    rw [e2] at hb
    obtain ⟨g1, g2, g3⟩ := h2 b hb
    refine ⟨g1, by show b < zs h + 1; omega, ?_⟩
    rw [e1]
    exact g3.kept (hq b (by omega))
end
section
/-! rows of the machine over the typed heap -/
section ZR
variable {p : Program} {l : Launch} {e : Env} {R : Room} {s : State} {m : MethodId} {args : Array Value} {below : List Frame} {meth : Method} {c : Code} {H H0 : Heap} {locs : List Loc} {cells slots : Nat} {Q : State → Prop}
variable {cc : ByteArray} {pc nL : Nat} {ls : Array Slot} {rest : List Value} {A : Nat → Prop} {D : va_G} {cy : Nat → ClassId} {h h' : Hz} {own : String}
theorem zP_one {a : Nat} {x : va_E} (hat : va_at D vwCl (a, x) H) : va_P D vwCl [(a, x)] H := by
  intro k q hq
  match k, hq with
  | 0, hq => cases hq; exact hat
  | k + 1, hq => simp at hq
/-- what an object's cell is -/
theorem z_obj {ci a N : Nat} {C : String} {T : u_T} {ty : Nat → FieldType} (hW : zW A cy D h H) (hT : zT h a = ci) (hC : zC ci C T N ty) : A a ∧ a < zs h ∧ va_at D vwCl (a, .inr (ci, zF h a)) H := by
  obtain ⟨g1, g2, g3⟩ := hW.2 a (by rw [hT]; exact Nat.lt_trans hC.2.2.1 (by decide))
  rw [zE_obj hT hC.2.2.1] at g3
  exact ⟨g1, g2, g3⟩
theorem z_get {ci k a N index : Nat} {C : String} {T : u_T} {ty : Nat → FieldType} {v : Value} (X : zX A D cy p s m args c cc own nL) (hW : zW A cy D h H) (hC : zC ci C T N ty) (hk : k < N) (hT : zT h a = ci) (hv : fv h a ci k = v) (hl : Cond.fieldLink own index (T k).1 (T k).2.1 (T k).2.2.1 ∈ wT) (hdg : decode cc pc = .ok (.getfield index, 3))
    (kk : W p l e R s m args below meth c H locs cells slots Q (F0 m (pc + 3) ls (v :: rest))) : W p l e R s m args below meth c H locs cells slots Q (F0 m pc ls (.ref a :: rest)) := by
  obtain ⟨hx, hb, hts, hown, hK, -⟩ := X
  obtain ⟨-, -, g3⟩ := z_obj hW hT hC
  refine va_get (D := D) (ci := ci) (v := v) (C := C) (T := T) (N := N) hx hb hts hC.2.1 hown hK (zP_one g3) 0 rfl hC.1 k hk (hts _ hl) (fun _ h9 => h9) ?_ hdg kk
  rw [zF_get hT (by rw [hC.2.2.2.1]; exact hk), hv]
theorem z_getI {ci k a N index : Nat} {C : String} {T : u_T} {ty : Nat → FieldType} {x : Int32} (X : zX A D cy p s m args c cc own nL) (hW : zW A cy D h H) (hg : gI ci k a h = some x) (hC : zC ci C T N ty) (hk : k < N) (hr : isR ci k = false) (hl : Cond.fieldLink own index (T k).1 (T k).2.1 (T k).2.2.1 ∈ wT) (hdg : decode cc pc = .ok (.getfield index, 3))
    (kk : W p l e R s m args below meth c H locs cells slots Q (F0 m (pc + 3) ls (.int x :: rest))) : W p l e R s m args below meth c H locs cells slots Q (F0 m pc ls (.ref a :: rest)) := by
  obtain ⟨hT, hx⟩ := it_v hg
  exact z_get X hW hC hk hT (by simp [fv, hr, hx]) hl hdg kk
theorem z_getP {ci k a N index : Nat} {C : String} {T : u_T} {ty : Nat → FieldType} {x : Option Nat} (X : zX A D cy p s m args c cc own nL) (hW : zW A cy D h H) (hg : gP ci k a h = some x) (hC : zC ci C T N ty) (hk : k < N) (hr : isR ci k = true) (hl : Cond.fieldLink own index (T k).1 (T k).2.1 (T k).2.2.1 ∈ wT) (hdg : decode cc pc = .ok (.getfield index, 3))
    (kk : W p l e R s m args below meth c H locs cells slots Q (F0 m (pc + 3) ls (va_rf x :: rest))) : W p l e R s m args below meth c H locs cells slots Q (F0 m pc ls (.ref a :: rest)) := by
  obtain ⟨hT, hx⟩ := it_v hg
  exact z_get X hW hC hk hT (by simp [fv, hr, hx]) hl hdg kk
/-- putfield: the heap behind it -/
theorem z_put {ci k a N index : Nat} {C : String} {T : u_T} {ty : Nat → FieldType} {v : Value} (X : zX A D cy p s m args c cc own nL) (hW : zW A cy D h H) (hS : va_S A H0 H locs) (hC : zC ci C T N ty) (hk : k < N) (hT : zT h a = ci) (ho : zOff a h h') (hF : zF h' a = (zF h a).set k v) (hn : narrow (ty k) v = v) (hfit : fits (ty k) v = true) (hfin : (T k).2.2.2 = false ∨ ((T k).2.2.2 = true ∧ meth.name = "<init>" ∧ (T k).1 = own)) (hl : Cond.fieldLink own index (T k).1 (T k).2.1 (T k).2.2.1 ∈ wT) (hdg : decode cc pc = .ok (.putfield index, 3))
    (kk : ∀ (H1 : Heap) (locs1 : List Loc), zW A cy D h' H1 → va_S A H0 H1 locs1 → W p l e R s m args below meth c H1 locs1 cells slots Q (F0 m (pc + 3) ls rest)) : W p l e R s m args below meth c H locs cells slots Q (F0 m pc ls (v :: .ref a :: rest)) := by
  obtain ⟨hx, hb, hts, hown, hK, -⟩ := X
  obtain ⟨gA, glt, gat⟩ := z_obj hW hT hC
  obtain ⟨hc, hin, hci, hnF, hty, hnm⟩ := hC
  have hap := va_apart (own := own) (D := D) (cl := vwCl) (tys := zty cy) hts hin ty hty hnm hK hc
  obtain ⟨r, h1, cell, q1, q2, q3, q4⟩ := gat
  have hr : r = (C, T, N) := Option.some.inj (h1.symm.trans hc)
  subst hr
  obtain ⟨hSl, hfc, kC, hkC, hkind⟩ := hK.1 ci _ hc
  obtain ⟨cf, kf, fi, f, hi, hsl⟩ := hSl k hk
  have hlay := hts _ (hin _ (u_in_lay hk))
  have hst := (u_facts hfc hkC (u_lays hts hin hk) hi).1
  have hlen : k < (zF h a).length := by rw [zF_len hT, hnF]; exact hk
  have fin : ∀ (H' : Heap), H'[a]? = some (cell.setSlot f.slot v) → H'.size = H.size → (∀ q : Nat, q ≠ a → H'[q]? = H[q]?) → W p l e R s m args below meth c H' (locs ++ [⟨a, f.slot⟩]) cells slots Q (F0 m (pc + 3) ls rest) := by
    intro H' e1 e2 e3
    rw [hsl] at e1 ⊢
    refine kk H' _ (zW_upd hW ho e2 e3 ?_) (hS.put e2 e3 gA)
    have hT' : zT h' a = ci := by rw [← hT]; simp only [zT, ho.1]
    rw [zE_obj hT' hci, hF]
    exact ⟨_, hc, t_OB.to (V := updV (vp_V (zF h a)) k v) ⟨_, e1, q2, q3, t_set q4 hap hk v⟩ (fun j _ => vp_updV_set hlen v j)⟩
  rcases hfin with hfin | ⟨hfin, hin2, hdecl⟩
  · unfold u_lay at hlay
    rw [if_neg (by rw [hfin]; decide)] at hlay
    have h6 := u_store hfc hkC hkind hlay hi (hty k hk) hn hfit
    exact W.putK hx hb (f := f) ⟨hown, hts _ hl, ⟨_, _, _, hi⟩, hst⟩ (by rw [q2]; exact h6) q1 q3 (by rw [hsl]; exact k2_hasslot (q4 k hk)) rfl rfl hdg fin
  · unfold u_lay at hlay
    rw [if_pos hfin] at hlay
    have hcf : m.cls = cf := by
      obtain ⟨_, _, c', _, _, _, -, -, hf', -, -, -, hown2, -⟩ := Cond.laysFinal_spec hlay
      have e1 : c' = cf := by have := hi.symm.trans hf'; simp at this; exact this.1.symm
      rw [hdecl] at hown2
      rw [← e1]; exact Option.some.inj (hown.symm.trans hown2)
    have h6 := u_fits hfc hkC hkind (Or.inr hlay) hi (hty k hk) hn hfit
    exact W.putFinK hx hb hown (hts _ hl) hi hst hcf hin2 (by rw [q2]; exact h6) q1 q3 (by rw [hsl]; exact k2_hasslot (q4 k hk)) rfl rfl hdg fin
end ZR
end
section
section ZR2
variable {p : Program} {l : Launch} {e : Env} {R : Room} {s : State} {m : MethodId} {args : Array Value} {below : List Frame} {meth : Method} {c : Code} {H H0 : Heap} {locs : List Loc} {cells slots : Nat} {Q : State → Prop}
variable {cc : ByteArray} {pc nL : Nat} {ls : Array Slot} {rest : List Value} {A : Nat → Prop} {D : va_G} {cy : Nat → ClassId} {h h' : Hz} {own : String}
theorem z_putI {ci k a N index : Nat} {C : String} {T : u_T} {ty : Nat → FieldType} {v : Int32} (X : zX A D cy p s m args c cc own nL) (hW : zW A cy D h H) (hS : va_S A H0 H locs) (hg : pI ci k a v h = some h') (hC : zC ci C T N ty) (hk : k < N) (hr : isR ci k = false) (hty : ty k = .int) (hfin : (T k).2.2.2 = false ∨ ((T k).2.2.2 = true ∧ meth.name = "<init>" ∧ (T k).1 = own)) (hl : Cond.fieldLink own index (T k).1 (T k).2.1 (T k).2.2.1 ∈ wT) (hdg : decode cc pc = .ok (.putfield index, 3))
    (kk : ∀ (H1 : Heap) (locs1 : List Loc), zW A cy D h' H1 → va_S A H0 H1 locs1 → W p l e R s m args below meth c H1 locs1 cells slots Q (F0 m (pc + 3) ls rest)) : W p l e R s m args below meth c H locs cells slots Q (F0 m pc ls (.int v :: .ref a :: rest)) := by
  obtain ⟨hT, rfl⟩ := it_v hg
  exact z_put X hW hS hC hk hT (zwI_off a k v h) (zF_wI v hT hr) (by rw [hty]; rfl) (by rw [hty]; rfl) hfin hl hdg kk
theorem z_putZ {ci k a N index : Nat} {C : String} {T : u_T} {ty : Nat → FieldType} {v : Int32} (X : zX A D cy p s m args c cc own nL) (hW : zW A cy D h H) (hS : va_S A H0 H locs) (hg : pZ ci k a v h = some h') (hC : zC ci C T N ty) (hk : k < N) (hr : isR ci k = false) (hty : ty k = .boolean) (hfin : (T k).2.2.2 = false ∨ ((T k).2.2.2 = true ∧ meth.name = "<init>" ∧ (T k).1 = own)) (hl : Cond.fieldLink own index (T k).1 (T k).2.1 (T k).2.2.1 ∈ wT) (hdg : decode cc pc = .ok (.putfield index, 3))
    (kk : ∀ (H1 : Heap) (locs1 : List Loc), zW A cy D h' H1 → va_S A H0 H1 locs1 → W p l e R s m args below meth c H1 locs1 cells slots Q (F0 m (pc + 3) ls rest)) : W p l e R s m args below meth c H locs cells slots Q (F0 m pc ls (.int v :: .ref a :: rest)) := by
  obtain ⟨⟨hT, hv⟩, rfl⟩ := it_v hg
  refine z_put X hW hS hC hk hT (zwI_off a k v h) (zF_wI v hT hr) ?_ ?_ hfin hl hdg kk
  · rw [hty]; rcases hv with rfl | rfl <;> rfl
  · rw [hty]; rcases hv with rfl | rfl <;> rfl
theorem z_putP {ci k a N index : Nat} {C : String} {T : u_T} {ty : Nat → FieldType} {v : Option Nat} (X : zX A D cy p s m args c cc own nL) (hW : zW A cy D h H) (hS : va_S A H0 H locs) (hg : pP ci k a v h = some h') (hC : zC ci C T N ty) (hk : k < N) (hr : isR ci k = true) (hty : (∃ n, ty k = .object n) ∨ ∃ t, ty k = .array t) (hfin : (T k).2.2.2 = false ∨ ((T k).2.2.2 = true ∧ meth.name = "<init>" ∧ (T k).1 = own)) (hl : Cond.fieldLink own index (T k).1 (T k).2.1 (T k).2.2.1 ∈ wT) (hdg : decode cc pc = .ok (.putfield index, 3))
    (kk : ∀ (H1 : Heap) (locs1 : List Loc), zW A cy D h' H1 → va_S A H0 H1 locs1 → W p l e R s m args below meth c H1 locs1 cells slots Q (F0 m (pc + 3) ls rest)) : W p l e R s m args below meth c H locs cells slots Q (F0 m pc ls (va_rf v :: .ref a :: rest)) := by
  obtain ⟨hT, rfl⟩ := it_v hg
  refine z_put X hW hS hC hk hT (zwP_off a k v h) (zF_wP v hT hr) ?_ ?_ hfin hl hdg kk
  · rcases hty with ⟨n, e1⟩ | ⟨n, e1⟩ <;> rw [e1] <;> cases v <;> rfl
  · rcases hty with ⟨n, e1⟩ | ⟨n, e1⟩ <;> rw [e1] <;> cases v <;> rfl
/-! arrays -/
theorem z_arr {a : Nat} {x : va_E} {t : Nat} (hW : zW A cy D h H) (hT : zT h a = t) (ht : t < 20) (hE : zE cy h a = x) : A a ∧ a < zs h ∧ va_at D vwCl (a, x) H := by
  obtain ⟨g1, g2, g3⟩ := hW.2 a (by rw [hT]; exact ht)
  rw [hE] at g3
  exact ⟨g1, g2, g3⟩
theorem z_aldI {a : Nat} {i x : Int32} (X : zX A D cy p s m args c cc own nL) (hW : zW A cy D h H) (hg : xI 12 a i h = some x) (hdg : decode cc pc = .ok (.iaload, 1))
    (kk : W p l e R s m args below meth c H locs cells slots Q (F0 m (pc + 1) ls (.int x :: rest))) : W p l e R s m args below meth c H locs cells slots Q (F0 m pc ls (.int i :: .ref a :: rest)) := by
  obtain ⟨⟨hT, hin⟩, rfl⟩ := it_v hg
  obtain ⟨hx, hb, -, -, hK, -⟩ := X
  obtain ⟨-, -, g3⟩ := z_arr hW hT (by decide) (zE_int hT)
  exact va_iald hx hb hK (zP_one g3) 0 0 rfl rfl hin hdg kk
theorem z_aldZ {a : Nat} {i x : Int32} (X : zX A D cy p s m args c cc own nL) (hW : zW A cy D h H) (hg : xI 14 a i h = some x) (hdg : decode cc pc = .ok (.baload, 1))
    (kk : W p l e R s m args below meth c H locs cells slots Q (F0 m (pc + 1) ls (.int x :: rest))) : W p l e R s m args below meth c H locs cells slots Q (F0 m pc ls (.int i :: .ref a :: rest)) := by
  obtain ⟨⟨hT, hin⟩, rfl⟩ := it_v hg
  obtain ⟨hx, hb, -, -, hK, -⟩ := X
  obtain ⟨-, -, g3⟩ := z_arr hW hT (by decide) (zE_bool hT)
  exact va_zald hx hb hK (zP_one g3) 0 2 rfl rfl hin hdg kk
theorem z_aldL {a : Nat} {i : Int32} {x : Int64} (X : zX A D cy p s m args c cc own nL) (hW : zW A cy D h H) (hg : xL a i h = some x) (hdg : decode cc pc = .ok (.laload, 1))
    (kk : W p l e R s m args below meth c H locs cells slots Q (F0 m (pc + 1) ls (.long x :: rest))) : W p l e R s m args below meth c H locs cells slots Q (F0 m pc ls (.int i :: .ref a :: rest)) := by
  obtain ⟨⟨hT, hin⟩, rfl⟩ := it_v hg
  obtain ⟨hx, hb, -, -, hK, -⟩ := X
  obtain ⟨-, -, g3⟩ := z_arr hW hT (by decide) (zE_long hT)
  exact va_lald hx hb hK (zP_one g3) 0 1 rfl rfl hin hdg kk
/-- an array of references: which one, by the place in zty -/
theorem z_aldP {a t : Nat} {C : String} {i : Int32} {x : Option Nat} (X : zX A D cy p s m args c cc own nL) (hW : zW A cy D h H) (hg : xP t a i h = some x) (h1 : 15 ≤ t) (h2 : t < 20) (hty : (zty cy)[t - 12]? = some (cy (t - 12), .object C)) (hdg : decode cc pc = .ok (.aaload, 1))
    (kk : W p l e R s m args below meth c H locs cells slots Q (F0 m (pc + 1) ls (va_rf x :: rest))) : W p l e R s m args below meth c H locs cells slots Q (F0 m pc ls (.int i :: .ref a :: rest)) := by
  obtain ⟨⟨hT, hin⟩, rfl⟩ := it_v hg
  obtain ⟨hx, hb, -, -, hK, -⟩ := X
  obtain ⟨-, -, g3⟩ := z_arr hW hT h2 (zE_ref hT h1)
  exact va_aldq hx hb hK (zP_one g3) 0 (t - 12) rfl hty hin hdg kk
theorem zI_wI (a k : Nat) (v : Int32) (h : Hz) : zI (zwI a k v h) a = upd (zI h a) k v := by
  funext j
  show zu h.1 a k v a j = _
  rw [zu_at]
  rfl
theorem zL_wL (a k : Nat) (v : Int64) (h : Hz) : zL (zwL a k v h) a = vp_updL (zL h a) k v := by
  funext j
  show zu h.2.1 a k v a j = _
  rw [zu_at]
  rfl
theorem zP_wP (a k : Nat) (v : Option Nat) (h : Hz) : zP (zwP a k v h) a = va_up (zP h a) k v := by
  funext j
  show zu h.2.2.1 a k v a j = _
  rw [zu_at]
  rfl
/-- a store: from what the machine does at the cell to the heap behind it -/
theorem z_st {a j : Nat} {x : va_E} {H1 : Heap} (hW : zW A cy D h H) (hS : va_S A H0 H locs) (gA : A a) (ho : zOff a h h') (hz : H1.size = H.size) (oq : ∀ q : Nat, q ≠ a → H1[q]? = H[q]?) (hE : zE cy h' a = x) (hat : va_at D vwCl (a, x) H1) : zW A cy D h' H1 ∧ va_S A H0 H1 (locs ++ [⟨a, j⟩]) := by
  refine ⟨zW_upd hW ho hz oq ?_, hS.put hz oq gA⟩
  rw [hE]
  exact hat
theorem z_astI {a : Nat} {i v : Int32} (X : zX A D cy p s m args c cc own nL) (hW : zW A cy D h H) (hS : va_S A H0 H locs) (hg : yI a i v h = some h') (hdg : decode cc pc = .ok (.iastore, 1))
    (kk : ∀ (H1 : Heap) (locs1 : List Loc), zW A cy D h' H1 → va_S A H0 H1 locs1 → W p l e R s m args below meth c H1 locs1 cells slots Q (F0 m (pc + 1) ls rest)) : W p l e R s m args below meth c H locs cells slots Q (F0 m pc ls (.int v :: .int i :: .ref a :: rest)) := by
  obtain ⟨⟨hT, hin⟩, rfl⟩ := it_v hg
  obtain ⟨hx, hb, -, -, hK, -⟩ := X
  obtain ⟨gA, -, g3⟩ := z_arr hW hT (by decide) (zE_int hT)
  refine W.iast hx hb g3 ((hK.2 0 _ rfl).1 (zN h a) (fun j => .int (zI h a j))) (fun q => by cases q) (by show ¬ (i < 0 ∨ (arrV _ _ _).slots.size ≤ _); rw [arrV_size]; exact hin) rfl rfl hdg fun H1 e z oq => ?_
  obtain ⟨k1, k2⟩ := z_st (j := i.toNatClampNeg) (h' := zwI a i.toNatClampNeg v h) (H1 := H1) hW hS gA (zwI_off _ _ _ _) z oq (zE_int (cy := cy) (h := zwI a i.toNatClampNeg v h) hT) (by
    show H1[a]? = some (vp_cell _ _)
    rw [e, vp_cell_i, vp_cell_i, arrV_store, zI_wI]
    congr 2
    funext q
    by_cases hq : q = i.toNatClampNeg
    · subst hq
      simp [updV, upd]
    · simp [updV, upd, hq])
  exact kk H1 _ k1 k2
theorem z_astZ {a : Nat} {i v : Int32} (X : zX A D cy p s m args c cc own nL) (hW : zW A cy D h H) (hS : va_S A H0 H locs) (hg : yZ a i v h = some h') (hdg : decode cc pc = .ok (.bastore, 1))
    (kk : ∀ (H1 : Heap) (locs1 : List Loc), zW A cy D h' H1 → va_S A H0 H1 locs1 → W p l e R s m args below meth c H1 locs1 cells slots Q (F0 m (pc + 1) ls rest)) : W p l e R s m args below meth c H locs cells slots Q (F0 m pc ls (.int v :: .int i :: .ref a :: rest)) := by
  obtain ⟨⟨hT, hin⟩, rfl⟩ := it_v hg
  obtain ⟨hx, hb, -, -, hK, -⟩ := X
  obtain ⟨gA, -, g3⟩ := z_arr hW hT (by decide) (zE_bool hT)
  refine W.zast hx hb g3 ((hK.2 2 _ rfl).1 (zN h a) (fun j => .int (zI h a j))) (fun q => by cases q) (by show ¬ (i < 0 ∨ (arrV _ _ _).slots.size ≤ _); rw [arrV_size]; exact hin) rfl rfl hdg fun H1 e z oq => ?_
  obtain ⟨k1, k2⟩ := z_st (j := i.toNatClampNeg) (h' := zwI a i.toNatClampNeg (vp_nar .boolean v) h) (H1 := H1) hW hS gA (zwI_off _ _ _ _) z oq (zE_bool (cy := cy) (h := zwI a i.toNatClampNeg (vp_nar .boolean v) h) hT) (by
    show H1[a]? = some (vp_cell _ _)
    rw [e, vp_cell_i, vp_cell_i, arrV_store, zI_wI]
    congr 2
    funext q
    by_cases hq : q = i.toNatClampNeg
    · subst hq
      simp [updV, upd, vp_nar]
      try rfl
    · simp [updV, upd, hq])
  exact kk H1 _ k1 k2
theorem z_astL {a : Nat} {i : Int32} {v : Int64} (X : zX A D cy p s m args c cc own nL) (hW : zW A cy D h H) (hS : va_S A H0 H locs) (hg : yL a i v h = some h') (hdg : decode cc pc = .ok (.lastore, 1))
    (kk : ∀ (H1 : Heap) (locs1 : List Loc), zW A cy D h' H1 → va_S A H0 H1 locs1 → W p l e R s m args below meth c H1 locs1 cells slots Q (F0 m (pc + 1) ls rest)) : W p l e R s m args below meth c H locs cells slots Q (F0 m pc ls (.long v :: .int i :: .ref a :: rest)) := by
  obtain ⟨⟨hT, hin⟩, rfl⟩ := it_v hg
  obtain ⟨hx, hb, -, -, hK, -⟩ := X
  obtain ⟨gA, -, g3⟩ := z_arr hW hT (by decide) (zE_long hT)
  refine W.last hx hb g3 ((hK.2 1 _ rfl).1 (zN h a) (fun j => .long (zL h a j))) (fun q => by cases q) (by show ¬ (i < 0 ∨ (arrV _ _ _).slots.size ≤ _); rw [arrV_size]; exact hin) rfl rfl hdg fun H1 e z oq => ?_
  obtain ⟨k1, k2⟩ := z_st (j := i.toNatClampNeg) (h' := zwL a i.toNatClampNeg v h) (H1 := H1) hW hS gA (zwL_off _ _ _ _) z oq (zE_long (cy := cy) (h := zwL a i.toNatClampNeg v h) hT) (by
    show H1[a]? = some (vp_cell _ _)
    rw [e, vp_cell_l, vp_cell_l, arrV_store, zL_wL]
    congr 2
    funext q
    by_cases hq : q = i.toNatClampNeg
    · subst hq
      simp [updV, vp_updL]
    · simp [updV, vp_updL, hq])
  exact kk H1 _ k1 k2
theorem z_astP {a t ce N : Nat} {i : Int32} {v : Option Nat} {C : String} {T : u_T} {ty : Nat → FieldType} (X : zX A D cy p s m args c cc own nL) (hW : zW A cy D h H) (hS : va_S A H0 H locs) (hg : yP t ce a i v h = some h') (h1 : 15 ≤ t) (h2 : t < 20) (hC : zC ce C T N ty) (hty : (zty cy)[t - 12]? = some (cy (t - 12), .object C)) (hdg : decode cc pc = .ok (.aastore, 1))
    (kk : ∀ (H1 : Heap) (locs1 : List Loc), zW A cy D h' H1 → va_S A H0 H1 locs1 → W p l e R s m args below meth c H1 locs1 cells slots Q (F0 m (pc + 1) ls rest)) : W p l e R s m args below meth c H locs cells slots Q (F0 m pc ls (va_rf v :: .int i :: .ref a :: rest)) := by
  obtain ⟨⟨hT, hin, hv⟩, rfl⟩ := it_v hg
  obtain ⟨hx, hb, -, -, hK, -⟩ := X
  obtain ⟨gA, -, g3⟩ := z_arr hW hT h2 (zE_ref hT h1)
  have hlt : i.toNatClampNeg < zN h a := Nat.not_le.mp fun q => hin (Or.inr q)
  have h0 : ¬ i < 0 := fun q => hin (Or.inl q)
  have fin : ∀ H1 : Heap, H1[a]? = some ((vp_cell (cy (t - 12)) (zN h a, .inr (.inr (.inr (.inr (zP h a)))))).setSlot i.toNatClampNeg (va_rf v)) → H1.size = H.size → (∀ q : Nat, q ≠ a → H1[q]? = H[q]?) → W p l e R s m args below meth c H1 (locs ++ [⟨a, i.toNatClampNeg⟩]) cells slots Q (F0 m (pc + 1) ls rest) := by
    intro H1 e z oq
    obtain ⟨k1, k2⟩ := z_st (j := i.toNatClampNeg) (h' := zwP a i.toNatClampNeg v h) (H1 := H1) hW hS gA (zwP_off _ _ _ _) z oq (zE_ref (cy := cy) (h := zwP a i.toNatClampNeg v h) hT h1) (by
      show H1[a]? = some (vp_cell _ _)
      rw [e, vp_cell_q, vp_cell_q, arrV_store, zP_wP]
      congr 2
      funext q
      by_cases hq : q = i.toNatClampNeg
      · subst hq
        simp [updV, va_up]
      · simp [updV, va_up, hq])
    exact kk H1 _ k1 k2
  cases v with
  | none => exact va_WaastN (C := C) hx hb g3 ((hK.2 (t - 12) _ hty).1 (zN h a) (fun j => va_rf (zP h a j))) (fun h => by cases h) (by show ¬ (i < 0 ∨ (arrV _ _ _).slots.size ≤ _); rw [arrV_size]; exact hin) rfl rfl hdg fin
  | some b =>
    have hb2 : zT h b = ce := by simpa using hv
    obtain ⟨-, -, gb⟩ := z_obj hW hb2 hC
    obtain ⟨r', hr', cellV, k1, k2, k3, -⟩ := gb
    have hcls := (hK.1 ce _ hC.1).2
    obtain ⟨kA, comp, m1, m2, m3, -⟩ := (hK.2 (t - 12) _ hty).2
    have hcomp : comp = D.1 ce := Option.some.inj (m3.symm.trans hcls.1)
    subst hcomp
    obtain ⟨kC, hkC, -⟩ := hcls.2
    exact W.aast hx hb g3 (fun q h => by cases h) (fun h => by cases h) m1 m2 rfl hkC ⟨h0, by show _ < (arrV _ _ _).slots.size; rw [arrV_size]; exact hlt⟩ k1 (fun q h => by rw [k3] at h; cases h) (by rw [k2]; exact hkC) (by rw [k2]; exact va_assign hcls) rfl rfl hdg fin
theorem z_alenI {a : Nat} {x : Int32} (X : zX A D cy p s m args c cc own nL) (hW : zW A cy D h H) (hg : xN 12 a h = some x) (hdg : decode cc pc = .ok (.arraylength, 1))
    (kk : W p l e R s m args below meth c H locs cells slots Q (F0 m (pc + 1) ls (.int x :: rest))) : W p l e R s m args below meth c H locs cells slots Q (F0 m pc ls (.ref a :: rest)) := by
  obtain ⟨hT, rfl⟩ := it_v hg
  obtain ⟨hx, hb, -, -, hK, -⟩ := X
  obtain ⟨-, -, g3⟩ := z_arr hW hT (by decide) (zE_int hT)
  exact va_alen hx hb hK (zP_one g3) 0 0 rfl rfl rfl hdg kk
theorem z_alenZ {a : Nat} {x : Int32} (X : zX A D cy p s m args c cc own nL) (hW : zW A cy D h H) (hg : xN 14 a h = some x) (hdg : decode cc pc = .ok (.arraylength, 1))
    (kk : W p l e R s m args below meth c H locs cells slots Q (F0 m (pc + 1) ls (.int x :: rest))) : W p l e R s m args below meth c H locs cells slots Q (F0 m pc ls (.ref a :: rest)) := by
  obtain ⟨hT, rfl⟩ := it_v hg
  obtain ⟨hx, hb, -, -, hK, -⟩ := X
  obtain ⟨-, -, g3⟩ := z_arr hW hT (by decide) (zE_bool hT)
  exact va_alen hx hb hK (zP_one g3) 0 2 rfl rfl rfl hdg kk
theorem z_alenL {a : Nat} {x : Int32} (X : zX A D cy p s m args c cc own nL) (hW : zW A cy D h H) (hg : xN 13 a h = some x) (hdg : decode cc pc = .ok (.arraylength, 1))
    (kk : W p l e R s m args below meth c H locs cells slots Q (F0 m (pc + 1) ls (.int x :: rest))) : W p l e R s m args below meth c H locs cells slots Q (F0 m pc ls (.ref a :: rest)) := by
  obtain ⟨hT, rfl⟩ := it_v hg
  obtain ⟨hx, hb, -, -, hK, -⟩ := X
  obtain ⟨-, -, g3⟩ := z_arr hW hT (by decide) (zE_long hT)
  exact va_alen hx hb hK (zP_one g3) 0 1 rfl rfl rfl hdg kk
theorem z_alenP {a t : Nat} {C : String} {x : Int32} (X : zX A D cy p s m args c cc own nL) (hW : zW A cy D h H) (hg : xN t a h = some x) (h1 : 15 ≤ t) (h2 : t < 20) (hty : (zty cy)[t - 12]? = some (cy (t - 12), .object C)) (hdg : decode cc pc = .ok (.arraylength, 1))
    (kk : W p l e R s m args below meth c H locs cells slots Q (F0 m (pc + 1) ls (.int x :: rest))) : W p l e R s m args below meth c H locs cells slots Q (F0 m pc ls (.ref a :: rest)) := by
  obtain ⟨hT, rfl⟩ := it_v hg
  obtain ⟨hx, hb, -, -, hK, -⟩ := X
  obtain ⟨-, -, g3⟩ := z_arr hW hT h2 (zE_ref hT h1)
  exact va_alen hx hb hK (zP_one g3) 0 (t - 12) rfl hty rfl hdg kk
end ZR2
end
section
section ZR3
variable {p : Program} {l : Launch} {e : Env} {R : Room} {s : State} {m : MethodId} {args : Array Value} {below : List Frame} {meth : Method} {c : Code} {H H0 : Heap} {locs : List Loc} {cells slots : Nat} {Q : State → Prop}
variable {cc : ByteArray} {pc nL : Nat} {ls : Array Slot} {rest : List Value} {A : Nat → Prop} {D : va_G} {cy : Nat → ClassId} {h h' : Hz} {own : String}
theorem zF_new {t n : Nat} {h : Hz} {ty : Nat → FieldType} (hty : ∀ k, k < nF t → defaultValue (ty k) = if isR t k = true then .null else .int 0) (j : Nat) (hj : j < nF t) : defaultValue (ty j) = vp_V (zF (znew t n h) (zs h)) j := by
  have hT : zT (znew t n h) (zs h) = t := va_up_self _ _ _
  have e1 : zI (znew t n h) (zs h) = fun _ => 0 := va_up_self _ _ _
  have e3 : zP (znew t n h) (zs h) = fun _ => none := va_up_self _ _ _
  rw [hty j hj]
  simp only [vp_V, List.getD_eq_getElem?_getD, zF_get hT hj, fv, e1, e3, Option.getD_some]
  rfl
theorem z_new {ci a N index : Nat} {C : String} {T : u_T} {ty : Nat → FieldType} (X : zX A D cy p s m args c cc own nL) (hW : zW A cy D h H) (hS : va_S A s.heap H locs) (hg : nO ci h = some (a, h')) (hC : zC ci C T N ty) (hd : ∀ k, k < nF ci → defaultValue (ty k) = if isR ci k = true then .null else .int 0) (h1 : Cond.classLink own index C ∈ wT) (h2 : Cond.instantiable C N ∈ wT) (h3 : Cond.initialized C ∈ wT) (hdg : decode cc pc = .ok (.new index, 3)) (hcells : cells + 1 ≤ R.cells) (hslots : slots + N ≤ R.slots)
    (kk : ∀ (H1 : Heap), zW A cy D h' H1 → va_S A s.heap H1 locs → W p l e R s m args below meth c H1 locs (cells + 1) (slots + N) Q (F0 m (pc + 3) ls (.ref a :: rest))) : W p l e R s m args below meth c H locs cells slots Q (F0 m pc ls rest) := by
  cases hg
  obtain ⟨hx, hb, hts, hown, hK, -, -, hA⟩ := X
  obtain ⟨hc, hin, hci, hnF, hty, hnm⟩ := hC
  have hKn := hK.1 ci _ hc
  have hA1 : A H.size := hA _ hS.1
  refine W.newcK hx hb hown (hts _ h1) (hts _ h2) (hts _ h3) rfl hdg hcells hslots hKn.2.1 hW.1 fun H1 kC hkC e1 z1 o1 => ?_
  have hq : ∀ q : Nat, q < H.size → H1[q]? = H[q]? := fun q hq => o1 q (by rw [← hW.1]; exact hq)
  refine kk H1 (zW_new hW hA1 (by rw [z1, hW.1]) hq ?_) ⟨Nat.le_trans hS.1 (by rw [z1, hW.1]; omega), fun x g1 g2 => (hq x (Nat.lt_of_lt_of_le g1 hS.1)).trans (hS.2.1 x g1 g2), hS.2.2⟩
  have hT : zT (znew ci 0 h) (zs h) = ci := va_up_self _ _ _
  rw [zE_obj hT hci]
  exact ⟨_, hc, (u_born ty hts hin hKn hkC e1 hty).to (fun j hj => zF_new hd j (by rw [hnF]; exact hj))⟩
theorem z_newP {t a B index : Nat} {C : String} {n : Int32} (X : zX A D cy p s m args c cc own nL) (hW : zW A cy D h H) (hS : va_S A s.heap H locs) (hg : nA t B n h = some (a, h')) (g1 : 15 ≤ t) (g2 : t < 20) (hty : (zty cy)[t - 12]? = some (cy (t - 12), .object C)) (h1 : Cond.classLink own index C ∈ wT) (h2 : va_AO C s) (hB : B * 4 ≤ 536870912) (hdg : decode cc pc = .ok (.anewarray index, 3)) (hcells : cells + 1 ≤ R.cells) (hslots : slots + B ≤ R.slots)
    (kk : ∀ (H1 : Heap), zW A cy D h' H1 → va_S A s.heap H1 locs → W p l e R s m args below meth c H1 locs (cells + 1) (slots + B) Q (F0 m (pc + 3) ls (.ref a :: rest))) : W p l e R s m args below meth c H locs cells slots Q (F0 m pc ls (.int n :: rest)) := by
  obtain ⟨⟨hn, hle⟩, hg⟩ := it_v hg
  cases hg
  obtain ⟨hx, hb, hts, hown, hK, -, -, hA⟩ := X
  have hA1 : A H.size := hA _ hS.1
  refine W.anew hx hb hown (hts _ h1) (va_AO.use h2) rfl hdg rfl hn (by omega) hcells (by omega) fun cA kA comp f1 f2 f3 f4 => ?_
  obtain ⟨kA', comp', m1, m2, m3, m4⟩ := (hK.2 (t - 12) _ hty).2
  have hcA : cA = cy (t - 12) := Option.some.inj (f1.symm.trans m4)
  subst hcA
  generalize hH1 : H.push ({ cls := cy (t - 12), slots := Array.replicate n.toNatClampNeg .null, vm := .none } : Cell) = H1
  have z1 : H1.size = H.size + 1 := by rw [← hH1, Array.size_push]
  have e1 : H1[H.size]? = some (arrV (cy (t - 12)) n.toNatClampNeg (fun _ => .null)) := by rw [← hH1, Array.getElem?_push_size, ← arrV_new]
  have hq : ∀ q : Nat, q < H.size → H1[q]? = H[q]? := fun q hq => by rw [← hH1, Array.getElem?_push, if_neg (Nat.ne_of_lt hq)]
  rw [hW.1]
  refine W.widen (Nat.le_refl _) (Nat.add_le_add_left hle slots) (kk H1 (zW_new hW hA1 z1 hq ?_) ⟨Nat.le_trans hS.1 (by rw [z1]; omega), fun x g1 g2 => (hq x (Nat.lt_of_lt_of_le g1 hS.1)).trans (hS.2.1 x g1 g2), hS.2.2⟩)
  have hT : zT (znew t n.toNatClampNeg h) (zs h) = t := va_up_self _ _ _
  have e3 : zP (znew t n.toNatClampNeg h) (zs h) = fun _ => none := va_up_self _ _ _
  have e4 : zN (znew t n.toNatClampNeg h) (zs h) = n.toNatClampNeg := va_up_self _ _ _
  rw [zE_ref hT g1, e3, e4]
  show H1[zs h]? = some (vp_cell _ _)
  rw [vp_cell_q, ← hW.1]
  exact e1
/-- an array of numbers: ints, longs, booleans -/
theorem z_newN {t a B : Nat} {n : Int32} {atype : ArrayType} {ty : FieldType} (X : zX A D cy p s m args c cc own nL) (hW : zW A cy D h H) (hS : va_S A s.heap H locs) (hg : nA t B n h = some (a, h')) (ht : t = 12 ∧ atype = .int ∨ t = 13 ∧ atype = .long ∨ t = 14 ∧ atype = .boolean) (h1 : Cond.arrayClass (newarray.typeOf atype) ∈ wT) (hB : B * 8 ≤ 536870912) (hdg : decode cc pc = .ok (.newarray atype, 2)) (hcells : cells + 1 ≤ R.cells) (hslots : slots + B ≤ R.slots)
    (kk : ∀ (H1 : Heap), zW A cy D h' H1 → va_S A s.heap H1 locs → W p l e R s m args below meth c H1 locs (cells + 1) (slots + B) Q (F0 m (pc + 2) ls (.ref a :: rest))) : W p l e R s m args below meth c H locs cells slots Q (F0 m pc ls (.int n :: rest)) := by
  obtain ⟨⟨hn, hle⟩, hg⟩ := it_v hg
  cases hg
  obtain ⟨hx, hb, hts, hown, hK, -, -, hA⟩ := X
  have hA1 : A H.size := hA _ hS.1
  have hbyt : n.toNatClampNeg * componentBytes (newarray.typeOf atype) ≤ 536870912 := by
    rcases ht with ⟨-, rfl⟩ | ⟨-, rfl⟩ | ⟨-, rfl⟩ <;> simp [newarray.typeOf, componentBytes] <;> omega
  refine va_newaK hx hb (hts _ h1) rfl hdg rfl hn rfl hbyt hcells (by omega) hW.1 fun H1 cA e1 z1 o1 hAr hNm => ?_
  have hq : ∀ q : Nat, q < H.size → H1[q]? = H[q]? := fun q hq => o1 q (by rw [← hW.1]; exact hq)
  refine W.widen (Nat.le_refl _) (Nat.add_le_add_left hle slots) (kk H1 (zW_new hW hA1 (by rw [z1, hW.1]) hq ?_) ⟨Nat.le_trans hS.1 (by rw [z1, hW.1]; omega), fun x g1 g2 => (hq x (Nat.lt_of_lt_of_le g1 hS.1)).trans (hS.2.1 x g1 g2), hS.2.2⟩)
  have hT : zT (znew t n.toNatClampNeg h) (zs h) = t := va_up_self _ _ _
  have eI : zI (znew t n.toNatClampNeg h) (zs h) = fun _ => 0 := va_up_self _ _ _
  have eL : zL (znew t n.toNatClampNeg h) (zs h) = fun _ => 0 := va_up_self _ _ _
  have e4 : zN (znew t n.toNatClampNeg h) (zs h) = n.toNatClampNeg := va_up_self _ _ _
  rcases ht with ⟨rfl, rfl⟩ | ⟨rfl, rfl⟩ | ⟨rfl, rfl⟩
  · have hcA : cA = cy 0 := Option.some.inj (hNm.symm.trans (hK.2 0 _ rfl).2)
    subst hcA
    rw [zE_int hT, eI, e4]
    exact e1
  · have hcA : cA = cy 1 := Option.some.inj (hNm.symm.trans (hK.2 1 _ rfl).2)
    subst hcA
    rw [zE_long hT, eL, e4]
    exact e1
  · have hcA : cA = cy 2 := Option.some.inj (hNm.symm.trans (hK.2 2 _ rfl).2)
    subst hcA
    rw [zE_bool hT, eI, e4]
    exact e1
/-! references in locals and on the stack -/
theorem z_aload_n {k : Fin 4} {i : Nat} {x : Option Nat} (hx : p.tables.exec = Jvm.exec) (hb : c.code = cc) (hdg : decode cc pc = .ok (.aload_n k, 1)) (hi : (k : Nat) = i) (hl : ls[i]? = some (.val (va_rf x)))
    (kk : W p l e R s m args below meth c H locs cells slots Q (F0 m (pc + 1) ls (va_rf x :: rest))) : W p l e R s m args below meth c H locs cells slots Q (F0 m pc ls rest) := by
  cases x with
  | none => exact lv_aload_nN hx hb hdg hi hl kk
  | some a => exact lv_aload_n hx hb hdg hi hl kk
theorem z_aload {i : Nat} {x : Option Nat} (hx : p.tables.exec = Jvm.exec) (hb : c.code = cc) (hdg : decode cc pc = .ok (.aload i, 2)) (hl : ls[i]? = some (.val (va_rf x)))
    (kk : W p l e R s m args below meth c H locs cells slots Q (F0 m (pc + 2) ls (va_rf x :: rest))) : W p l e R s m args below meth c H locs cells slots Q (F0 m pc ls rest) := by
  cases x with
  | none => exact lv_aloadN hx hb hdg hl kk
  | some a => exact lv_aload hx hb hdg hl kk
theorem va_rf_cat (x : Option Nat) : (va_rf x).category = 1 := by cases x <;> rfl
theorem z_astore_n {k : Fin 4} {i nL : Nat} {x : Option Nat} {lv lv' : List (Nat × Value)} (hx : p.tables.exec = Jvm.exec) (hb : c.code = cc) (hdg : decode cc pc = .ok (.astore_n k, 1)) (hi : (k : Nat) = i) (h : lv_has ls nL lv) (hn : i < nL) (hl : (i, va_rf x) :: lv.filter (fun q => !(q.1 == i) && !(q.1 + 1 == i && q.2.category == 2)) = lv')
    (kk : ∀ ls' : Array Slot, lv_has ls' nL lv' → W p l e R s m args below meth c H locs cells slots Q (F0 m (pc + 1) ls' rest)) : W p l e R s m args below meth c H locs cells slots Q (F0 m pc ls (va_rf x :: rest)) := by
  cases x with
  | none => exact lv_astore_nN hx hb hdg hi h hn hl kk
  | some a => exact lv_astore_n hx hb hdg hi h hn hl kk
theorem z_astore {i nL : Nat} {x : Option Nat} {lv lv' : List (Nat × Value)} (hx : p.tables.exec = Jvm.exec) (hb : c.code = cc) (hdg : decode cc pc = .ok (.astore i, 2)) (h : lv_has ls nL lv) (hn : i < nL) (hl : (i, va_rf x) :: lv.filter (fun q => !(q.1 == i) && !(q.1 + 1 == i && q.2.category == 2)) = lv')
    (kk : ∀ ls' : Array Slot, lv_has ls' nL lv' → W p l e R s m args below meth c H locs cells slots Q (F0 m (pc + 2) ls' rest)) : W p l e R s m args below meth c H locs cells slots Q (F0 m pc ls (va_rf x :: rest)) := by
  cases x with
  | none => exact lv_astoreN hx hb hdg h hn hl kk
  | some a => exact lv_astore hx hb hdg h hn hl kk
/-- a boolean answer -/
def rz (v : Int32) (h : Hz) : Option (Int32 × Hz) := if v = 0 ∨ v = 1 then some (v, h) else none
/-- the end of a method -/
theorem z_eti {v r : Int32} {h0 : Hz} {mc ms : Nat} (X : zX A D cy p s m args c cc own nL) (hlk : meth.locks = false) (hr : meth.sig.returnType = some .int) (hW : zW A cy D h H) (hS : va_S A s.heap H locs) (hh : some (v, h) = some (r, h0)) (hc : cells ≤ mc) (hs : slots ≤ ms) (hdg : decode cc pc = .ok (.ireturn, 1)) :
    W p l e R s m args below meth c H locs cells slots (MQ below (va_Qi (fun r1 u => r1 = r ∧ u = h0) (zB A D cy) A) args s mc ms A) (F0 m pc ls [.int v]) := by
  cases hh
  obtain ⟨hx, hb, -⟩ := X
  refine W.widen hc hs ?_
  exact W.iret hx hb hr (fun t ht hW1 => ⟨⟨v, h, rfl, ⟨rfl, rfl⟩, by show zW A cy D h t.heap; rw [ht]; exact hW⟩, hS.F ht⟩) hS.2.2 hdg
theorem z_etz {v r : Int32} {h0 : Hz} {mc ms : Nat} (X : zX A D cy p s m args c cc own nL) (hlk : meth.locks = false) (hr : meth.sig.returnType = some .boolean) (hW : zW A cy D h H) (hS : va_S A s.heap H locs) (hh : rz v h = some (r, h0)) (hc : cells ≤ mc) (hs : slots ≤ ms) (hdg : decode cc pc = .ok (.ireturn, 1)) :
    W p l e R s m args below meth c H locs cells slots (MQ below (va_Qi (fun r1 u => r1 = r ∧ u = h0) (zB A D cy) A) args s mc ms A) (F0 m pc ls [.int v]) := by
  obtain ⟨hv, hh⟩ := it_v hh
  cases hh
  obtain ⟨hx, hb, -⟩ := X
  refine W.widen hc hs ?_
  exact W.zret hx hb hr (by rcases hv with rfl | rfl <;> rfl) (fun t ht hW1 => ⟨⟨v, h, rfl, ⟨rfl, rfl⟩, by show zW A cy D h t.heap; rw [ht]; exact hW⟩, hS.F ht⟩) hS.2.2 hdg
theorem z_etl {v r : Int64} {h0 : Hz} {mc ms : Nat} (X : zX A D cy p s m args c cc own nL) (hlk : meth.locks = false) (hr : meth.sig.returnType = some .long) (hW : zW A cy D h H) (hS : va_S A s.heap H locs) (hh : some (v, h) = some (r, h0)) (hc : cells ≤ mc) (hs : slots ≤ ms) (hdg : decode cc pc = .ok (.lreturn, 1)) :
    W p l e R s m args below meth c H locs cells slots (MQ below (va_Ql (fun r1 u => r1 = r ∧ u = h0) (zB A D cy) A) args s mc ms A) (F0 m pc ls [.long v]) := by
  cases hh
  obtain ⟨hx, hb, -⟩ := X
  refine W.widen hc hs ?_
  exact W.lret hx hb hr (fun t ht hW1 => ⟨⟨v, h, rfl, ⟨rfl, rfl⟩, by show zW A cy D h t.heap; rw [ht]; exact hW⟩, hS.F ht⟩) hS.2.2 hdg
theorem z_eta {v r : Option Nat} {h0 : Hz} {mc ms : Nat} {C : String} (X : zX A D cy p s m args c cc own nL) (hlk : meth.locks = false) (hr : meth.sig.returnType = some (.object C)) (hW : zW A cy D h H) (hS : va_S A s.heap H locs) (hh : some (v, h) = some (r, h0)) (hc : cells ≤ mc) (hs : slots ≤ ms) (hdg : decode cc pc = .ok (.areturn, 1)) :
    W p l e R s m args below meth c H locs cells slots (MQ below (va_Qq (fun r1 u => r1 = r ∧ u = h0) (zB A D cy) A) args s mc ms A) (F0 m pc ls [va_rf v]) := by
  cases hh
  obtain ⟨hx, hb, -⟩ := X
  refine W.widen hc hs ?_
  exact W.aret hx hb hr (Or.inl ⟨C, rfl⟩) (va_rf_or v) (fun t ht hW1 => ⟨⟨v, h, rfl, ⟨rfl, rfl⟩, by show zW A cy D h t.heap; rw [ht]; exact hW⟩, hS.F ht⟩) hS.2.2 hdg
theorem z_etv {r : Unit} {h0 : Hz} {mc ms : Nat} (X : zX A D cy p s m args c cc own nL) (hlk : meth.locks = false) (hr : meth.sig.returnType = none) (hW : zW A cy D h H) (hS : va_S A s.heap H locs) (hh : some ((), h) = some (r, h0)) (hc : cells ≤ mc) (hs : slots ≤ ms) (hdg : decode cc pc = .ok (.return_, 1)) :
    W p l e R s m args below meth c H locs cells slots (MQ below (va_Qv (fun u => u = h0) (zB A D cy) A) args s mc ms A) (F0 m pc ls []) := by
  cases hh
  obtain ⟨hx, hb, -⟩ := X
  refine W.widen hc hs ?_
  exact W.vret hx hb hr (fun t ht hW1 => ⟨⟨h, rfl, rfl, by show zW A cy D h t.heap; rw [ht]; exact hW⟩, hS.F ht⟩) hS.2.2 hdg
end ZR3
end
section
section ZR4
variable {p : Program} {l : Launch} {e : Env} {R : Room} {s : State} {m : MethodId} {args : Array Value} {below : List Frame} {meth : Method} {c : Code} {H : Heap} {locs : List Loc} {cells slots : Nat} {Q : State → Prop}
variable {cc : ByteArray} {pc nL : Nat} {ls : Array Slot} {rest st0 : List Value} {A : Nat → Prop} {D : va_G} {cy : Nat → ClassId} {h h' : Hz} {own : String}
variable {y : MethodName} {bytes : ByteArray} {maxL mc ms n index : Nat} {ret : Option FieldType} {rm : Room} {As : List Value}
/-- a method and the words of a call of it -/
def zYb (y : MethodName) (bytes : ByteArray) (maxL : Nat) (ret : Option FieldType) (n : Nat) : Prop := Cond.code y bytes maxL ret ∈ wT ∧ Cond.initialized y.cls ∈ wT ∧ y.cls ≠ "java/lang/invoke/MethodHandle" ∧ y.cls ≠ "java/lang/invoke/VarHandle" ∧ (parseMethodDescriptor y.desc).map (fun d => d.parameters.length) = some n
def zYv (y : MethodName) : Prop := Cond.instanceMethod y ∈ wT ∧ Cond.selects y.cls y y ∈ wT
theorem wT_good {w : Cond} (h : w ∈ wT) : goodWord w = true := (List.mem_filter.mp h).2
theorem zGood (hY : zYb y bytes maxL ret n) : GoodIn wT (Cond.code y bytes maxL ret :: wT) := by
  intro w hw
  rcases List.mem_cons.mp hw with rfl | hw
  · exact ⟨hY.1, good_of_word (wT_good hY.1)⟩
  · exact ⟨hw, good_of_word (wT_good hw)⟩
theorem zCallB (hts : ∀ w ∈ wT, w.before args s = true) (hY : zYb y bytes maxL ret n) (hl : Cond.methodLink own index y ∈ wT) (hrc : rm.cells = mc) (hrs : rm.slots = ms) (hR : rm.frames + 1 ≤ R.frames ∧ 8 + (maxL + 11) + rm.locals ≤ R.locals) : CallB R s args own index y bytes maxL ret (Cond.code y bytes maxL ret :: wT) rm mc ms n :=
  callB_of n hts (zGood hY) rfl hrc hrs (hts _ hY.2.1) (hts _ hl) hY.2.2 hR
/-- the start of a call, from the caller's heap -/
theorem zPre (X : zX A D cy p s m args c cc own nL) (hW : zW A cy D h H) (hS : va_S A s.heap H locs) (av : List Value) (U : State) (hU : U.heap = H) (hw : s.WarmedH U.vm) : va_Pc av (zS A D cy h) av.toArray U := by
  obtain ⟨-, -, -, -, hK, -, hN, hA⟩ := X
  exact ⟨rfl, by rw [hU]; exact hW, va_K.moved hw.alike hK, hN.warm hw, fun q hq => hA q (Nat.le_trans hS.1 (by rw [← hU]; exact hq))⟩
theorem z_callVi {r : Int32} {b ci N : Nat} {T : u_T} {ty : Nat → FieldType} (X : zX A D cy p s m args c cc own nL) (hW : zW A cy D h H) (hS : va_S A s.heap H locs) (hM : Met l y (Cond.code y bytes maxL ret :: wT) rm (va_Pc (.ref b :: As) (zS A D cy h)) (va_Qi (fun r1 u => r1 = r ∧ u = h') (zB A D cy) A) mc ms A) (hY : zYb y bytes maxL ret n) (hV : zYv y) (hl : Cond.methodLink own index y ∈ wT) (hT : zT h b = ci) (hC : zC ci y.cls T N ty) (hrc : rm.cells = mc) (hrs : rm.slots = ms) (hR : rm.frames + 1 ≤ R.frames ∧ 8 + (maxL + 11) + rm.locals ≤ R.locals) (hn : As.length = n) (hst : st0 = As.reverse ++ .ref b :: rest) (hro : (rest.map fun v => v.category).sum ≤ 8) (hsz : ls.size = nL) (hdg : decode cc pc = .ok (.invokevirtual index, 3)) (hf : cells + mc ≤ R.cells ∧ slots + ms ≤ R.slots)
    (kk : ∀ (H1 : Heap) (locs1 : List Loc), zW A cy D h' H1 → va_S A s.heap H1 locs1 → W p l e R s m args below meth c H1 locs1 (cells + mc) (slots + ms) Q (F0 m (pc + 3) ls (.int r :: rest))) : W p l e R s m args below meth c H locs cells slots Q (F0 m pc ls st0) := by
  obtain ⟨hx, hb, hts, hown, hK, hml, hN, hA⟩ := id X
  obtain ⟨-, -, g3⟩ := z_obj hW hT hC
  refine va_calli (va_runV (As := As) (rest := rest) (n := n) (C := y.cls) ⟨hx, hb, hml, hown, hts⟩ hM ⟨zCallB hts hY hl hrc hrs hR, hts _ hV.1, hts _ hV.2⟩ ⟨zS_blind _ _ _ _ _, va_recv hK (zP_one g3) hC.1 (q0 := 0) rfl, fun U hU hw => zPre X hW hS _ U hU hw⟩ rfl hn hsz hst (lv_room hro) hdg hf) hS (fun q _ hq => hq) (fun q hq => hq) (fun r1 u t H1 locs1 ht hvm hp hB hz hk hS1 => ?_)
  obtain ⟨rfl, rfl⟩ := hp
  exact kk H1 locs1 (by rw [← ht]; exact hB) hS1
theorem z_callVl {r : Int64} {b ci N : Nat} {T : u_T} {ty : Nat → FieldType} (X : zX A D cy p s m args c cc own nL) (hW : zW A cy D h H) (hS : va_S A s.heap H locs) (hM : Met l y (Cond.code y bytes maxL ret :: wT) rm (va_Pc (.ref b :: As) (zS A D cy h)) (va_Ql (fun r1 u => r1 = r ∧ u = h') (zB A D cy) A) mc ms A) (hY : zYb y bytes maxL ret n) (hV : zYv y) (hl : Cond.methodLink own index y ∈ wT) (hT : zT h b = ci) (hC : zC ci y.cls T N ty) (hrc : rm.cells = mc) (hrs : rm.slots = ms) (hR : rm.frames + 1 ≤ R.frames ∧ 8 + (maxL + 11) + rm.locals ≤ R.locals) (hn : As.length = n) (hst : st0 = As.reverse ++ .ref b :: rest) (hro : (rest.map fun v => v.category).sum ≤ 8) (hsz : ls.size = nL) (hdg : decode cc pc = .ok (.invokevirtual index, 3)) (hf : cells + mc ≤ R.cells ∧ slots + ms ≤ R.slots)
    (kk : ∀ (H1 : Heap) (locs1 : List Loc), zW A cy D h' H1 → va_S A s.heap H1 locs1 → W p l e R s m args below meth c H1 locs1 (cells + mc) (slots + ms) Q (F0 m (pc + 3) ls (.long r :: rest))) : W p l e R s m args below meth c H locs cells slots Q (F0 m pc ls st0) := by
  obtain ⟨hx, hb, hts, hown, hK, hml, hN, hA⟩ := id X
  obtain ⟨-, -, g3⟩ := z_obj hW hT hC
  refine va_calll (va_runV (As := As) (rest := rest) (n := n) (C := y.cls) ⟨hx, hb, hml, hown, hts⟩ hM ⟨zCallB hts hY hl hrc hrs hR, hts _ hV.1, hts _ hV.2⟩ ⟨zS_blind _ _ _ _ _, va_recv hK (zP_one g3) hC.1 (q0 := 0) rfl, fun U hU hw => zPre X hW hS _ U hU hw⟩ rfl hn hsz hst (lv_room hro) hdg hf) hS (fun q _ hq => hq) (fun q hq => hq) (fun r1 u t H1 locs1 ht hvm hp hB hz hk hS1 => ?_)
  obtain ⟨rfl, rfl⟩ := hp
  exact kk H1 locs1 (by rw [← ht]; exact hB) hS1
theorem z_callVq {r : Option Nat} {b ci N : Nat} {T : u_T} {ty : Nat → FieldType} (X : zX A D cy p s m args c cc own nL) (hW : zW A cy D h H) (hS : va_S A s.heap H locs) (hM : Met l y (Cond.code y bytes maxL ret :: wT) rm (va_Pc (.ref b :: As) (zS A D cy h)) (va_Qq (fun r1 u => r1 = r ∧ u = h') (zB A D cy) A) mc ms A) (hY : zYb y bytes maxL ret n) (hV : zYv y) (hl : Cond.methodLink own index y ∈ wT) (hT : zT h b = ci) (hC : zC ci y.cls T N ty) (hrc : rm.cells = mc) (hrs : rm.slots = ms) (hR : rm.frames + 1 ≤ R.frames ∧ 8 + (maxL + 11) + rm.locals ≤ R.locals) (hn : As.length = n) (hst : st0 = As.reverse ++ .ref b :: rest) (hro : (rest.map fun v => v.category).sum ≤ 8) (hsz : ls.size = nL) (hdg : decode cc pc = .ok (.invokevirtual index, 3)) (hf : cells + mc ≤ R.cells ∧ slots + ms ≤ R.slots)
    (kk : ∀ (H1 : Heap) (locs1 : List Loc), zW A cy D h' H1 → va_S A s.heap H1 locs1 → W p l e R s m args below meth c H1 locs1 (cells + mc) (slots + ms) Q (F0 m (pc + 3) ls (va_rf r :: rest))) : W p l e R s m args below meth c H locs cells slots Q (F0 m pc ls st0) := by
  obtain ⟨hx, hb, hts, hown, hK, hml, hN, hA⟩ := id X
  obtain ⟨-, -, g3⟩ := z_obj hW hT hC
  refine va_callq (va_runV (As := As) (rest := rest) (n := n) (C := y.cls) ⟨hx, hb, hml, hown, hts⟩ hM ⟨zCallB hts hY hl hrc hrs hR, hts _ hV.1, hts _ hV.2⟩ ⟨zS_blind _ _ _ _ _, va_recv hK (zP_one g3) hC.1 (q0 := 0) rfl, fun U hU hw => zPre X hW hS _ U hU hw⟩ rfl hn hsz hst (lv_room hro) hdg hf) hS (fun q _ hq => hq) (fun q hq => hq) (fun r1 u t H1 locs1 ht hvm hp hB hz hk hS1 => ?_)
  obtain ⟨rfl, rfl⟩ := hp
  exact kk H1 locs1 (by rw [← ht]; exact hB) hS1
theorem z_callVv {b ci N : Nat} {T : u_T} {ty : Nat → FieldType} (X : zX A D cy p s m args c cc own nL) (hW : zW A cy D h H) (hS : va_S A s.heap H locs) (hM : Met l y (Cond.code y bytes maxL ret :: wT) rm (va_Pc (.ref b :: As) (zS A D cy h)) (va_Qv (fun u => u = h') (zB A D cy) A) mc ms A) (hY : zYb y bytes maxL ret n) (hV : zYv y) (hl : Cond.methodLink own index y ∈ wT) (hT : zT h b = ci) (hC : zC ci y.cls T N ty) (hrc : rm.cells = mc) (hrs : rm.slots = ms) (hR : rm.frames + 1 ≤ R.frames ∧ 8 + (maxL + 11) + rm.locals ≤ R.locals) (hn : As.length = n) (hst : st0 = As.reverse ++ .ref b :: rest) (hro : (rest.map fun v => v.category).sum ≤ 8) (hsz : ls.size = nL) (hdg : decode cc pc = .ok (.invokevirtual index, 3)) (hf : cells + mc ≤ R.cells ∧ slots + ms ≤ R.slots)
    (kk : ∀ (H1 : Heap) (locs1 : List Loc), zW A cy D h' H1 → va_S A s.heap H1 locs1 → W p l e R s m args below meth c H1 locs1 (cells + mc) (slots + ms) Q (F0 m (pc + 3) ls (rest))) : W p l e R s m args below meth c H locs cells slots Q (F0 m pc ls st0) := by
  obtain ⟨hx, hb, hts, hown, hK, hml, hN, hA⟩ := id X
  obtain ⟨-, -, g3⟩ := z_obj hW hT hC
  refine va_callv (va_runV (As := As) (rest := rest) (n := n) (C := y.cls) ⟨hx, hb, hml, hown, hts⟩ hM ⟨zCallB hts hY hl hrc hrs hR, hts _ hV.1, hts _ hV.2⟩ ⟨zS_blind _ _ _ _ _, va_recv hK (zP_one g3) hC.1 (q0 := 0) rfl, fun U hU hw => zPre X hW hS _ U hU hw⟩ rfl hn hsz hst (lv_room hro) hdg hf) hS (fun q _ hq => hq) (fun q hq => hq) (fun u t H1 locs1 ht hvm hp hB hz hk hS1 => ?_)
  subst hp
  exact kk H1 locs1 (by rw [← ht]; exact hB) hS1
theorem z_callSi {r : Int32} (X : zX A D cy p s m args c cc own nL) (hW : zW A cy D h H) (hS : va_S A s.heap H locs) (hM : Met l y (Cond.code y bytes maxL ret :: wT) rm (va_Pc As (zS A D cy h)) (va_Qi (fun r1 u => r1 = r ∧ u = h') (zB A D cy) A) mc ms A) (hY : zYb y bytes maxL ret n) (hV : Cond.static y ∈ wT) (hl : Cond.methodLink own index y ∈ wT) (hrc : rm.cells = mc) (hrs : rm.slots = ms) (hR : rm.frames + 1 ≤ R.frames ∧ 8 + (maxL + 11) + rm.locals ≤ R.locals) (hn : As.length = n) (hst : st0 = As.reverse ++ rest) (hro : (rest.map fun v => v.category).sum ≤ 8) (hsz : ls.size = nL) (hdg : decode cc pc = .ok (.invokestatic index, 3)) (hf : cells + mc ≤ R.cells ∧ slots + ms ≤ R.slots)
    (kk : ∀ (H1 : Heap) (locs1 : List Loc), zW A cy D h' H1 → va_S A s.heap H1 locs1 → W p l e R s m args below meth c H1 locs1 (cells + mc) (slots + ms) Q (F0 m (pc + 3) ls (.int r :: rest))) : W p l e R s m args below meth c H locs cells slots Q (F0 m pc ls st0) := by
  obtain ⟨hx, hb, hts, hown, hK, hml, hN, hA⟩ := id X
  refine va_calli (va_runS (As := As) (rest := rest) (n := n) ⟨hx, hb, hml, hown, hts⟩ hM ⟨zCallB hts hY hl hrc hrs hR, hts _ hV⟩ ⟨zS_blind _ _ _ _ _, fun U hU hw => zPre X hW hS _ U hU hw⟩ rfl hn hsz hst (lv_room hro) hdg hf) hS (fun q _ hq => hq) (fun q hq => hq) (fun r1 u t H1 locs1 ht hvm hp hB hz hk hS1 => ?_)
  obtain ⟨rfl, rfl⟩ := hp
  exact kk H1 locs1 (by rw [← ht]; exact hB) hS1
theorem z_callSl {r : Int64} (X : zX A D cy p s m args c cc own nL) (hW : zW A cy D h H) (hS : va_S A s.heap H locs) (hM : Met l y (Cond.code y bytes maxL ret :: wT) rm (va_Pc As (zS A D cy h)) (va_Ql (fun r1 u => r1 = r ∧ u = h') (zB A D cy) A) mc ms A) (hY : zYb y bytes maxL ret n) (hV : Cond.static y ∈ wT) (hl : Cond.methodLink own index y ∈ wT) (hrc : rm.cells = mc) (hrs : rm.slots = ms) (hR : rm.frames + 1 ≤ R.frames ∧ 8 + (maxL + 11) + rm.locals ≤ R.locals) (hn : As.length = n) (hst : st0 = As.reverse ++ rest) (hro : (rest.map fun v => v.category).sum ≤ 8) (hsz : ls.size = nL) (hdg : decode cc pc = .ok (.invokestatic index, 3)) (hf : cells + mc ≤ R.cells ∧ slots + ms ≤ R.slots)
    (kk : ∀ (H1 : Heap) (locs1 : List Loc), zW A cy D h' H1 → va_S A s.heap H1 locs1 → W p l e R s m args below meth c H1 locs1 (cells + mc) (slots + ms) Q (F0 m (pc + 3) ls (.long r :: rest))) : W p l e R s m args below meth c H locs cells slots Q (F0 m pc ls st0) := by
  obtain ⟨hx, hb, hts, hown, hK, hml, hN, hA⟩ := id X
  refine va_calll (va_runS (As := As) (rest := rest) (n := n) ⟨hx, hb, hml, hown, hts⟩ hM ⟨zCallB hts hY hl hrc hrs hR, hts _ hV⟩ ⟨zS_blind _ _ _ _ _, fun U hU hw => zPre X hW hS _ U hU hw⟩ rfl hn hsz hst (lv_room hro) hdg hf) hS (fun q _ hq => hq) (fun q hq => hq) (fun r1 u t H1 locs1 ht hvm hp hB hz hk hS1 => ?_)
  obtain ⟨rfl, rfl⟩ := hp
  exact kk H1 locs1 (by rw [← ht]; exact hB) hS1
theorem z_callSq {r : Option Nat} (X : zX A D cy p s m args c cc own nL) (hW : zW A cy D h H) (hS : va_S A s.heap H locs) (hM : Met l y (Cond.code y bytes maxL ret :: wT) rm (va_Pc As (zS A D cy h)) (va_Qq (fun r1 u => r1 = r ∧ u = h') (zB A D cy) A) mc ms A) (hY : zYb y bytes maxL ret n) (hV : Cond.static y ∈ wT) (hl : Cond.methodLink own index y ∈ wT) (hrc : rm.cells = mc) (hrs : rm.slots = ms) (hR : rm.frames + 1 ≤ R.frames ∧ 8 + (maxL + 11) + rm.locals ≤ R.locals) (hn : As.length = n) (hst : st0 = As.reverse ++ rest) (hro : (rest.map fun v => v.category).sum ≤ 8) (hsz : ls.size = nL) (hdg : decode cc pc = .ok (.invokestatic index, 3)) (hf : cells + mc ≤ R.cells ∧ slots + ms ≤ R.slots)
    (kk : ∀ (H1 : Heap) (locs1 : List Loc), zW A cy D h' H1 → va_S A s.heap H1 locs1 → W p l e R s m args below meth c H1 locs1 (cells + mc) (slots + ms) Q (F0 m (pc + 3) ls (va_rf r :: rest))) : W p l e R s m args below meth c H locs cells slots Q (F0 m pc ls st0) := by
  obtain ⟨hx, hb, hts, hown, hK, hml, hN, hA⟩ := id X
  refine va_callq (va_runS (As := As) (rest := rest) (n := n) ⟨hx, hb, hml, hown, hts⟩ hM ⟨zCallB hts hY hl hrc hrs hR, hts _ hV⟩ ⟨zS_blind _ _ _ _ _, fun U hU hw => zPre X hW hS _ U hU hw⟩ rfl hn hsz hst (lv_room hro) hdg hf) hS (fun q _ hq => hq) (fun q hq => hq) (fun r1 u t H1 locs1 ht hvm hp hB hz hk hS1 => ?_)
  obtain ⟨rfl, rfl⟩ := hp
  exact kk H1 locs1 (by rw [← ht]; exact hB) hS1
theorem z_callSv (X : zX A D cy p s m args c cc own nL) (hW : zW A cy D h H) (hS : va_S A s.heap H locs) (hM : Met l y (Cond.code y bytes maxL ret :: wT) rm (va_Pc As (zS A D cy h)) (va_Qv (fun u => u = h') (zB A D cy) A) mc ms A) (hY : zYb y bytes maxL ret n) (hV : Cond.static y ∈ wT) (hl : Cond.methodLink own index y ∈ wT) (hrc : rm.cells = mc) (hrs : rm.slots = ms) (hR : rm.frames + 1 ≤ R.frames ∧ 8 + (maxL + 11) + rm.locals ≤ R.locals) (hn : As.length = n) (hst : st0 = As.reverse ++ rest) (hro : (rest.map fun v => v.category).sum ≤ 8) (hsz : ls.size = nL) (hdg : decode cc pc = .ok (.invokestatic index, 3)) (hf : cells + mc ≤ R.cells ∧ slots + ms ≤ R.slots)
    (kk : ∀ (H1 : Heap) (locs1 : List Loc), zW A cy D h' H1 → va_S A s.heap H1 locs1 → W p l e R s m args below meth c H1 locs1 (cells + mc) (slots + ms) Q (F0 m (pc + 3) ls (rest))) : W p l e R s m args below meth c H locs cells slots Q (F0 m pc ls st0) := by
  obtain ⟨hx, hb, hts, hown, hK, hml, hN, hA⟩ := id X
  refine va_callv (va_runS (As := As) (rest := rest) (n := n) ⟨hx, hb, hml, hown, hts⟩ hM ⟨zCallB hts hY hl hrc hrs hR, hts _ hV⟩ ⟨zS_blind _ _ _ _ _, fun U hU hw => zPre X hW hS _ U hU hw⟩ rfl hn hsz hst (lv_room hro) hdg hf) hS (fun q _ hq => hq) (fun q hq => hq) (fun u t H1 locs1 ht hvm hp hB hz hk hS1 => ?_)
  subst hp
  exact kk H1 locs1 (by rw [← ht]; exact hB) hS1
theorem z_callIv {b : Nat} (X : zX A D cy p s m args c cc own nL) (hW : zW A cy D h H) (hS : va_S A s.heap H locs) (hM : Met l y (Cond.code y bytes maxL none :: wT) rm (va_Pc (.ref b :: As) (zS A D cy h)) (va_Qv (fun u => u = h') (zB A D cy) A) mc ms A) (hY : zYb y bytes maxL none n) (hV : Cond.instanceMethod y ∈ wT) (hnm : y.name = "<init>") (hl : Cond.methodLink own index y ∈ wT) (hrc : rm.cells = mc) (hrs : rm.slots = ms) (hR : rm.frames + 1 ≤ R.frames ∧ 8 + (maxL + 11) + rm.locals ≤ R.locals) (hn : As.length = n) (hst : st0 = As.reverse ++ .ref b :: rest) (hro : (rest.map fun v => v.category).sum ≤ 8) (hsz : ls.size = nL) (hdg : decode cc pc = .ok (.invokespecial index, 3)) (hf : cells + mc ≤ R.cells ∧ slots + ms ≤ R.slots)
    (kk : ∀ (H1 : Heap) (locs1 : List Loc), zW A cy D h' H1 → va_S A s.heap H1 locs1 → W p l e R s m args below meth c H1 locs1 (cells + mc) (slots + ms) Q (F0 m (pc + 3) ls (rest))) : W p l e R s m args below meth c H locs cells slots Q (F0 m pc ls st0) := by
  obtain ⟨hx, hb, hts, hown, hK, hml, hN, hA⟩ := id X
  refine va_callv (va_runI (As := As) (rest := rest) (n := n) ⟨hx, hb, hml, hown, hts⟩ hM ⟨zCallB hts hY hl hrc hrs hR, hnm, hts _ hV⟩ ⟨zS_blind _ _ _ _ _, fun U hU hw => zPre X hW hS _ U hU hw⟩ rfl hn hsz hst (lv_room hro) hdg hf) hS (fun q _ hq => hq) (fun q hq => hq) (fun u t H1 locs1 ht hvm hp hB hz hk hS1 => ?_)
  subst hp
  exact kk H1 locs1 (by rw [← ht]; exact hB) hS1
theorem z_callINv {b : Nat} {host : String} (X : zX A D cy p s m args c cc own nL) (hW : zW A cy D h H) (hS : va_S A s.heap H locs) (hM : Met l y (Cond.code y bytes maxL none :: wT) rm (va_Pc (.ref b :: As) (zS A D cy h)) (va_Qv (fun u => u = h') (zB A D cy) A) mc ms A) (hY : zYb y bytes maxL none n) (hV : Cond.instanceMethod y ∈ wT) (hnm : y.name = "<init>") (hl : va_Nw (.methodLinkNest own index y host) s) (hrc : rm.cells = mc) (hrs : rm.slots = ms) (hR : rm.frames + 1 ≤ R.frames ∧ 8 + (maxL + 11) + rm.locals ≤ R.locals) (hn : As.length = n) (hst : st0 = As.reverse ++ .ref b :: rest) (hro : (rest.map fun v => v.category).sum ≤ 8) (hsz : ls.size = nL) (hdg : decode cc pc = .ok (.invokespecial index, 3)) (hf : cells + mc ≤ R.cells ∧ slots + ms ≤ R.slots)
    (kk : ∀ (H1 : Heap) (locs1 : List Loc), zW A cy D h' H1 → va_S A s.heap H1 locs1 → W p l e R s m args below meth c H1 locs1 (cells + mc) (slots + ms) Q (F0 m (pc + 3) ls (rest))) : W p l e R s m args below meth c H locs cells slots Q (F0 m pc ls st0) := by
  obtain ⟨hx, hb, hts, hown, hK, hml, hN, hA⟩ := id X
  refine va_callv (va_runIN (As := As) (rest := rest) (n := n) ⟨hx, hb, hml, hown, hts⟩ hM ⟨va_cnB n hts (zGood hY) rfl hrc hrs hl (hts _ hY.2.1) hY.2.2 hR, hnm, hts _ hV⟩ ⟨zS_blind _ _ _ _ _, fun U hU hw => zPre X hW hS _ U hU hw⟩ rfl hn hsz hst (lv_room hro) hdg hf) hS (fun q _ hq => hq) (fun q hq => hq) (fun u t H1 locs1 ht hvm hp hB hz hk hS1 => ?_)
  subst hp
  exact kk H1 locs1 (by rw [← ht]; exact hB) hS1
/-- System.arraycopy of longs -/
theorem z_copyL {a0 a : Nat} {sp dp n : Int32} (X : zX A D cy p s m args c cc own nL) (hW : zW A cy D h H) (hS : va_S A s.heap H locs) (hg : cL a0 sp a dp n h = some h') (hsz : ls.size = nL) (h1 : Cond.methodLink own index arraycopyName ∈ wT) (h2 : Cond.native arraycopyName ∈ wT) (h3 : Cond.static arraycopyName ∈ wT) (h4 : Cond.initialized "java/lang/System" ∈ wT) (hframes : 1 ≤ R.frames) (hlocals : (rest.map fun v => v.category).sum + (nativeFrameWords "java/lang/System" "arraycopy" 5 + 11) ≤ R.locals) (hdg : decode cc pc = .ok (.invokestatic index, 3))
    (kk : ∀ (H1 : Heap) (locs1 : List Loc), zW A cy D h' H1 → va_S A s.heap H1 locs1 → W p l e R s m args below meth c H1 locs1 cells slots Q (F0 m (pc + 3) ls rest)) : W p l e R s m args below meth c H locs cells slots Q (F0 m pc ls (.int n :: .int dp :: .ref a :: .int sp :: .ref a0 :: rest)) := by
  obtain ⟨⟨hT0, hT, g1, g2, g3, g4, g5⟩, rfl⟩ := it_v hg
  obtain ⟨hx, hb, hts, hown, hK, hml, hN, hA⟩ := X
  obtain ⟨-, -, k0⟩ := z_arr hW hT0 (by decide) (zE_long hT0)
  obtain ⟨gA, -, k1⟩ := z_arr hW hT (by decide) (zE_long hT)
  have nn : ∀ z : Int32, ¬ z < 0 → z.toInt = (z.toNatClampNeg : Int) := by
    intro z hz
    have hz0 : (0 : Int) ≤ z.toInt := by
      have := Int32.not_lt.mp hz
      simpa using Int32.le_iff_toInt_le.mp this
    show z.toInt = ((z.toInt.toNat : Nat) : Int)
    omega
  intro T hTT X1
  have hc0 : H[a0]? = some (vp_cell (cy 1) (zN h a0, .inr (.inl (zL h a0)))) := k0
  have hc1 : H[a]? = some (vp_cell (cy 1) (zN h a, .inr (.inl (zL h a)))) := k1
  obtain ⟨-, q0, hk0, cm0, hkk0⟩ := (hK.2 1 _ rfl).1 (zN h a0) (fun j => .long (zL h a0 j))
  obtain ⟨-, q1, hk1, cm1, hkk1⟩ := (hK.2 1 _ rfl).1 (zN h a) (fun j => .long (zL h a j))
  obtain ⟨vm', X', step⟩ := X1.arraycopy hx hown (hts _ h1) (hts _ h2) (hts _ h3) (hts _ h4) (src := a0) (dst := a) (cs := vp_cell (cy 1) (zN h a0, .inr (.inl (zL h a0)))) (cd := vp_cell (cy 1) (zN h a, .inr (.inl (zL h a)))) (srcPos := sp) (destPos := dp) (n := n) (by rw [hTT]; exact hc0) (by rw [hTT]; exact hc1)
    (fun _ h => by cases h) (fun _ h => by cases h) (fun h => by cases h) (fun h => by cases h) hk0 hk1 hkk0 hkk1 (by simp [refKind]) g1 g2 g3
    (by rw [nn sp g1, nn n g3]; show ¬ _ > ((arrV (cy 1) (zN h a0) (fun j => .long (zL h a0 j))).slots.size : Int); rw [arrV_size]; omega)
    (by rw [nn dp g2, nn n g3]; show ¬ _ > ((arrV (cy 1) (zN h a) (fun j => .long (zL h a j))).slots.size : Int); rw [arrV_size]; omega)
    (fun vm₁ _ i hi => by
      have e : (vp_cell (cy 1) (zN h a0, .inr (.inl (zL h a0)))).slots.getD (sp.toNatClampNeg + i) .null = .long (zL h a0 (sp.toNatClampNeg + i)) := by
        show (arrV (cy 1) (zN h a0) (fun j => .long (zL h a0 j))).slots.getD _ _ = _
        rw [Array.getD_eq_getD_getElem?, arrV_read _ _ (by omega)]
        rfl
      refine ⟨?_, ?_⟩
      · rw [e]
        rfl
      · rw [e]
        exact trivial)
    (g := F0 m pc ls (.int n :: .int dp :: .ref a :: .int sp :: .ref a0 :: rest)) rfl (by rw [hml, ← hsz]) (rest := rest) rfl (by rw [hb]; exact hdg) hframes (by show 2 * 0 + _ + _ ≤ _; omega)
  have e1 : copied (vp_cell (cy 1) (zN h a0, .inr (.inl (zL h a0)))) (vp_cell (cy 1) (zN h a, .inr (.inl (zL h a)))) sp dp n = vp_cell (cy 1) (zN h a, .inr (.inl (va_cpy (zL h a0) (zL h a) sp.toNatClampNeg dp.toNatClampNeg n.toNatClampNeg))) := va_copied (fun z => .long z) (cy 1) (cy 1) (zL h a0) (zL h a) g4
  rw [e1] at X' step
  have hl : a < H.size := (Array.getElem?_eq_some_iff.mp hc1).1
  have hheap : ((T.setVm vm').setCell a (vp_cell (cy 1) (zN h a, .inr (.inl (va_cpy (zL h a0) (zL h a) sp.toNatClampNeg dp.toNatClampNeg n.toNatClampNeg))))).heap = H.setIfInBounds a (vp_cell (cy 1) (zN h a, .inr (.inl (va_cpy (zL h a0) (zL h a) sp.toNatClampNeg dp.toNatClampNeg n.toNatClampNeg)))) := by rw [← hTT]; rfl
  generalize hv : va_cpy (zL h a0) (zL h a) sp.toNatClampNeg dp.toNatClampNeg n.toNatClampNeg = cv at *
  have oq : ∀ q : Nat, q ≠ a → (H.setIfInBounds a (vp_cell (cy 1) (zN h a, .inr (.inl cv))))[q]? = H[q]? := fun q hq => by simp [Array.getElem?_setIfInBounds, Ne.symm hq]
  have ho : zOff a h (h.1, va_up h.2.1 a cv, h.2.2) := ⟨rfl, fun b hb => ⟨rfl, va_up_ne _ _ hb, rfl⟩⟩
  have hE : zE cy (h.1, va_up h.2.1 a cv, h.2.2) a = .inl (cy 1, zN h a, .inr (.inl cv)) := by
    have hT2 : zT (h.1, va_up h.2.1 a cv, h.2.2) a = 13 := hT
    rw [zE_long hT2]
    show (Sum.inl (cy 1, zN h a, Sum.inr (Sum.inl (va_up h.2.1 a cv a))) : va_E) = _
    rw [va_up_self]
  obtain ⟨t, a1, b1⟩ := kk _ _ (zW_upd hW ho (by simp) oq (by rw [hE]; show (H.setIfInBounds a _)[a]? = some _; simp [Array.getElem?_setIfInBounds, hl])) ⟨by simp; exact hS.1, fun q g1 g2 => by
      rw [oq q (fun e => g2 (by rw [e]; exact gA))]
      exact hS.2.1 q g1 g2, fun q hq => by
      rcases List.mem_append.mp hq with h | h
      · exact hS.2.2 q h
      · obtain ⟨z, -, hz⟩ := List.mem_map.mp h
        rw [← hz]
        exact gA⟩ _ hheap X'
  exact ⟨t, step t a1, b1⟩
end ZR4
end
section
theorem mT {w : Cond} (i : Nat) (h : tables_1[i]? = some w) (g : goodWord w = true) : w ∈ wT := List.mem_filter.mpr ⟨List.mem_append_right _ (List.mem_of_getElem? h), g⟩
theorem mT1 {w : Cond} (i : Nat) (h : tables_1_1[i]? = some w) (g : goodWord w = true) : w ∈ wT := List.mem_filter.mpr ⟨List.mem_append_right _ (List.mem_append_left _ (List.mem_of_getElem? h)), g⟩
theorem mT2 {w : Cond} (i : Nat) (h : tables_1_2[i]? = some w) (g : goodWord w = true) : w ∈ wT := List.mem_filter.mpr ⟨List.mem_append_right _ (List.mem_append_right _ (List.mem_append_left _ (List.mem_of_getElem? h))), g⟩
theorem mT3 {w : Cond} (i : Nat) (h : tables_1_3[i]? = some w) (g : goodWord w = true) : w ∈ wT := List.mem_filter.mpr ⟨List.mem_append_right _ (List.mem_append_right _ (List.mem_append_right _ (List.mem_append_left _ (List.mem_of_getElem? h)))), g⟩
theorem mT4 {w : Cond} (i : Nat) (h : tables_1_4[i]? = some w) (g : goodWord w = true) : w ∈ wT := List.mem_filter.mpr ⟨List.mem_append_right _ (List.mem_append_right _ (List.mem_append_right _ (List.mem_append_right _ (List.mem_append_left _ (List.mem_of_getElem? h))))), g⟩
theorem mT5 {w : Cond} (i : Nat) (h : tables_1_5[i]? = some w) (g : goodWord w = true) : w ∈ wT := List.mem_filter.mpr ⟨List.mem_append_right _ (List.mem_append_right _ (List.mem_append_right _ (List.mem_append_right _ (List.mem_append_right _ (List.mem_append_left _ (List.mem_of_getElem? h)))))), g⟩
theorem mT6 {w : Cond} (i : Nat) (h : tables_1_6[i]? = some w) (g : goodWord w = true) : w ∈ wT := List.mem_filter.mpr ⟨List.mem_append_right _ (List.mem_append_right _ (List.mem_append_right _ (List.mem_append_right _ (List.mem_append_right _ (List.mem_append_right _ (List.mem_of_getElem? h)))))), g⟩
theorem mS {w : Cond} (i : Nat) (h : (k2_sels lw_privs)[i]? = some w) (g : goodWord w = true) : w ∈ wT := List.mem_filter.mpr ⟨List.mem_append_left _ (List.mem_of_getElem? h), g⟩
theorem mTs {ws : List Cond} (ps : List Nat) (hp : ws = ps.filterMap (fun i => tables_1[i]?)) (hg : ws.all goodWord = true) : ∀ w ∈ ws, w ∈ wT := by
  intro w hw
  have h1 := List.all_eq_true.mp hg w hw
  rw [hp] at hw
  obtain ⟨i, -, hi⟩ := List.mem_filterMap.mp hw
  exact mT i hi h1
theorem kX0 : zC 0 RX0 TX0 10 tyX0 := ⟨rfl, mTs [472, 474, 476, 478, 480, 482, 484, 486, 488, 490] (by decide +kernel) (by decide +kernel), by decide, rfl, tyX0_ok, nmX0⟩
theorem kd_X0 : ∀ k, k < nF 0 → defaultValue (tyX0 k) = if isR 0 k = true then .null else .int 0 := by decide +kernel
theorem kX1 : zC 1 RX1 TX1 5 tyX1 := ⟨rfl, mTs [103, 105, 107, 109, 111] (by decide +kernel) (by decide +kernel), by decide, rfl, tyX1_ok, nmX1⟩
theorem kd_X1 : ∀ k, k < nF 1 → defaultValue (tyX1 k) = if isR 1 k = true then .null else .int 0 := by decide +kernel
theorem kX2 : zC 2 RX2 TX2 2 tyX2 := ⟨rfl, mTs [48, 50] (by decide +kernel) (by decide +kernel), by decide, rfl, tyX2_ok, nmX2⟩
theorem kd_X2 : ∀ k, k < nF 2 → defaultValue (tyX2 k) = if isR 2 k = true then .null else .int 0 := by decide +kernel
theorem kX3 : zC 3 RX3 TX3 3 tyX3 := ⟨rfl, mTs [80, 82, 84] (by decide +kernel) (by decide +kernel), by decide, rfl, tyX3_ok, nmX3⟩
theorem kd_X3 : ∀ k, k < nF 3 → defaultValue (tyX3 k) = if isR 3 k = true then .null else .int 0 := by decide +kernel
theorem kX4 : zC 4 RX4 TX4 2 tyX4 := ⟨rfl, mTs [346, 348] (by decide +kernel) (by decide +kernel), by decide, rfl, tyX4_ok, nmX4⟩
theorem kd_X4 : ∀ k, k < nF 4 → defaultValue (tyX4 k) = if isR 4 k = true then .null else .int 0 := by decide +kernel
theorem kX5 : zC 5 RX5 TX5 11 tyX5 := ⟨rfl, mTs [217, 219, 221, 223, 225, 227, 229, 231, 233, 235, 237] (by decide +kernel) (by decide +kernel), by decide, rfl, tyX5_ok, nmX5⟩
theorem kd_X5 : ∀ k, k < nF 5 → defaultValue (tyX5 k) = if isR 5 k = true then .null else .int 0 := by decide +kernel
theorem kX6 : zC 6 RX6 TX6 2 tyX6 := ⟨rfl, mTs [33, 35] (by decide +kernel) (by decide +kernel), by decide, rfl, tyX6_ok, nmX6⟩
theorem kd_X6 : ∀ k, k < nF 6 → defaultValue (tyX6 k) = if isR 6 k = true then .null else .int 0 := by decide +kernel
theorem kX7 : zC 7 RX7 TX7 2 tyX7 := ⟨rfl, mTs [63, 65] (by decide +kernel) (by decide +kernel), by decide, rfl, tyX7_ok, nmX7⟩
theorem kd_X7 : ∀ k, k < nF 7 → defaultValue (tyX7 k) = if isR 7 k = true then .null else .int 0 := by decide +kernel
theorem kX8 : zC 8 RX8 TX8 3 tyX8 := ⟨rfl, mTs [515, 517, 519] (by decide +kernel) (by decide +kernel), by decide, rfl, tyX8_ok, nmX8⟩
theorem kd_X8 : ∀ k, k < nF 8 → defaultValue (tyX8 k) = if isR 8 k = true then .null else .int 0 := by decide +kernel
theorem kX9 : zC 9 RX9 TX9 11 tyX9 := ⟨rfl, mTs [709, 711, 713, 715, 717, 719, 721, 723, 725, 727, 729] (by decide +kernel) (by decide +kernel), by decide, rfl, tyX9_ok, nmX9⟩
theorem kd_X9 : ∀ k, k < nF 9 → defaultValue (tyX9 k) = if isR 9 k = true then .null else .int 0 := by decide +kernel
theorem kX10 : zC 10 RX10 TX10 13 tyX10 := ⟨rfl, mTs [127, 129, 131, 133, 135, 137, 139, 141, 143, 145, 147, 149, 151] (by decide +kernel) (by decide +kernel), by decide, rfl, tyX10_ok, nmX10⟩
theorem kd_X10 : ∀ k, k < nF 10 → defaultValue (tyX10 k) = if isR 10 k = true then .null else .int 0 := by decide +kernel
theorem kX11 : zC 11 RX11 TX11 50 tyX11 := ⟨rfl, mTs [891, 893, 895, 897, 899, 901, 903, 905, 907, 909, 911, 913, 915, 917, 919, 921, 923, 925, 927, 929, 931, 933, 935, 937, 939, 941, 943, 945, 947, 949, 951, 953, 955, 957, 959, 961, 963, 965, 967, 969, 971, 973, 975, 977, 979, 981, 983, 985, 987, 989] (by decide +kernel) (by decide +kernel), by decide, rfl, tyX11_ok, nmX11⟩
theorem kd_X11 : ∀ k, k < nF 11 → defaultValue (tyX11 k) = if isR 11 k = true then .null else .int 0 := by decide +kernel
theorem ki_0 : Cond.initialized RL ∈ wT := mT1 0 (by decide +kernel) rfl
theorem ki_1 : Cond.initialized RX10 ∈ wT := mT1 1 (by decide +kernel) rfl
theorem ki_2 : Cond.initialized RX6 ∈ wT := mT1 2 (by decide +kernel) rfl
theorem ki_3 : Cond.initialized RX2 ∈ wT := mT1 3 (by decide +kernel) rfl
theorem ki_4 : Cond.initialized RX7 ∈ wT := mT1 4 (by decide +kernel) rfl
theorem ki_5 : Cond.initialized RX3 ∈ wT := mT1 5 (by decide +kernel) rfl
theorem ki_6 : Cond.initialized RX1 ∈ wT := mT1 6 (by decide +kernel) rfl
theorem ki_7 : Cond.initialized RX11 ∈ wT := mT1 7 (by decide +kernel) rfl
theorem ki_8 : Cond.initialized RX5 ∈ wT := mT1 8 (by decide +kernel) rfl
theorem ki_9 : Cond.initialized "java/lang/Math" ∈ wT := mT1 9 (by decide +kernel) rfl
theorem ki_10 : Cond.initialized RX4 ∈ wT := mT1 10 (by decide +kernel) rfl
theorem ki_11 : Cond.initialized "java/lang/System" ∈ wT := mT1 11 (by decide +kernel) rfl
theorem ki_12 : Cond.initialized RX0 ∈ wT := mT1 12 (by decide +kernel) rfl
theorem ki_13 : Cond.initialized RX8 ∈ wT := mT1 13 (by decide +kernel) rfl
theorem ki_14 : Cond.initialized RX9 ∈ wT := mT1 14 (by decide +kernel) rfl
theorem kc_L_7 : Cond.classLink RL 7 RX10 ∈ wT := mT1 15 (by decide +kernel) rfl
theorem kn_X10 : Cond.instantiable RX10 13 ∈ wT := mT1 16 (by decide +kernel) rfl
theorem kl_L_9 : Cond.methodLink RL 9 yX10_init ∈ wT := mT1 17 (by decide +kernel) rfl
theorem km_X10_init : Cond.instanceMethod yX10_init ∈ wT := mT1 18 (by decide +kernel) rfl
theorem kb_X10_init : zYb yX10_init cX10_init 1 none 0 := ⟨mT1 19 (by decide +kernel) rfl, mT1 1 (by decide +kernel) rfl, by decide +kernel, by decide +kernel, by decide +kernel⟩
theorem kl_X10_1 : Cond.methodLink RX10 1 objectInit ∈ wT := mT1 20 (by decide +kernel) rfl
theorem km_objectInit : Cond.instanceMethod objectInit ∈ wT := mT1 21 (by decide +kernel) rfl
theorem kco : Cond.code objectInit ⟨#[0xb1]⟩ 1 none ∈ wT := mT1 22 (by decide +kernel) rfl
theorem kc_X10_7 : Cond.classLink RX10 7 RX6 ∈ wT := mT1 23 (by decide +kernel) rfl
theorem kn_X6 : Cond.instantiable RX6 2 ∈ wT := mT1 24 (by decide +kernel) rfl
theorem km_X6_init : Cond.instanceMethod yX6_init ∈ wT := mT1 26 (by decide +kernel) rfl
theorem kb_X6_init : zYb yX6_init cX6_init 1 none 0 := ⟨mT1 27 (by decide +kernel) rfl, mT1 2 (by decide +kernel) rfl, by decide +kernel, by decide +kernel, by decide +kernel⟩
theorem kl_X6_3 : Cond.methodLink RX6 3 objectInit ∈ wT := mT1 28 (by decide +kernel) rfl
theorem kc_X6_9 : Cond.classLink RX6 9 RX5 ∈ wT := mT1 29 (by decide +kernel) rfl
theorem kf_X6_11 : Cond.fieldLink RX6 11 (TX6 0).1 (TX6 0).2.1 (TX6 0).2.2.1 ∈ wT := mT1 31 (by decide +kernel) rfl
theorem kf_X6_17 : Cond.fieldLink RX6 17 (TX6 1).1 (TX6 1).2.1 (TX6 1).2.2.1 ∈ wT := mT1 32 (by decide +kernel) rfl
theorem kc_X10_16 : Cond.classLink RX10 16 RX2 ∈ wT := mT1 38 (by decide +kernel) rfl
theorem kn_X2 : Cond.instantiable RX2 2 ∈ wT := mT1 39 (by decide +kernel) rfl
theorem km_X2_init : Cond.instanceMethod yX2_init ∈ wT := mT1 41 (by decide +kernel) rfl
theorem kb_X2_init : zYb yX2_init cX2_init 1 none 0 := ⟨mT1 42 (by decide +kernel) rfl, mT1 3 (by decide +kernel) rfl, by decide +kernel, by decide +kernel, by decide +kernel⟩
theorem kl_X2_3 : Cond.methodLink RX2 3 objectInit ∈ wT := mT1 43 (by decide +kernel) rfl
theorem kc_X2_9 : Cond.classLink RX2 9 RX0 ∈ wT := mT1 44 (by decide +kernel) rfl
theorem kf_X2_11 : Cond.fieldLink RX2 11 (TX2 0).1 (TX2 0).2.1 (TX2 0).2.2.1 ∈ wT := mT1 46 (by decide +kernel) rfl
theorem kf_X2_17 : Cond.fieldLink RX2 17 (TX2 1).1 (TX2 1).2.1 (TX2 1).2.2.1 ∈ wT := mT1 47 (by decide +kernel) rfl
theorem kc_X10_23 : Cond.classLink RX10 23 RX7 ∈ wT := mT1 53 (by decide +kernel) rfl
theorem kn_X7 : Cond.instantiable RX7 2 ∈ wT := mT1 54 (by decide +kernel) rfl
theorem km_X7_init : Cond.instanceMethod yX7_init ∈ wT := mT1 56 (by decide +kernel) rfl
theorem kb_X7_init : zYb yX7_init cX7_init 1 none 0 := ⟨mT1 57 (by decide +kernel) rfl, mT1 4 (by decide +kernel) rfl, by decide +kernel, by decide +kernel, by decide +kernel⟩
theorem kl_X7_3 : Cond.methodLink RX7 3 objectInit ∈ wT := mT1 58 (by decide +kernel) rfl
theorem kc_X7_9 : Cond.classLink RX7 9 RX8 ∈ wT := mT1 59 (by decide +kernel) rfl
theorem kf_X7_11 : Cond.fieldLink RX7 11 (TX7 0).1 (TX7 0).2.1 (TX7 0).2.2.1 ∈ wT := mT1 61 (by decide +kernel) rfl
theorem kf_X7_17 : Cond.fieldLink RX7 17 (TX7 1).1 (TX7 1).2.1 (TX7 1).2.2.1 ∈ wT := mT1 62 (by decide +kernel) rfl
theorem kc_X10_30 : Cond.classLink RX10 30 RX9 ∈ wT := mT1 68 (by decide +kernel) rfl
theorem kc_X10_46 : Cond.classLink RX10 46 RX3 ∈ wT := mT1 70 (by decide +kernel) rfl
theorem kn_X3 : Cond.instantiable RX3 3 ∈ wT := mT1 71 (by decide +kernel) rfl
theorem km_X3_init : Cond.instanceMethod yX3_init ∈ wT := mT1 73 (by decide +kernel) rfl
theorem kb_X3_init : zYb yX3_init cX3_init 1 none 0 := ⟨mT1 74 (by decide +kernel) rfl, mT1 5 (by decide +kernel) rfl, by decide +kernel, by decide +kernel, by decide +kernel⟩
theorem kl_X3_3 : Cond.methodLink RX3 3 objectInit ∈ wT := mT1 75 (by decide +kernel) rfl
theorem kc_X3_15 : Cond.classLink RX3 15 RX5 ∈ wT := mT1 76 (by decide +kernel) rfl
theorem kf_X3_9 : Cond.fieldLink RX3 9 (TX3 0).1 (TX3 0).2.1 (TX3 0).2.2.1 ∈ wT := mT1 77 (by decide +kernel) rfl
theorem kf_X3_17 : Cond.fieldLink RX3 17 (TX3 1).1 (TX3 1).2.1 (TX3 1).2.2.1 ∈ wT := mT1 78 (by decide +kernel) rfl
theorem kf_X3_21 : Cond.fieldLink RX3 21 (TX3 2).1 (TX3 2).2.1 (TX3 2).2.2.1 ∈ wT := mT1 79 (by decide +kernel) rfl
theorem kp_int : Cond.arrayClass .int ∈ wT := mT1 87 (by decide +kernel) rfl
theorem kp_boolean : Cond.arrayClass .boolean ∈ wT := mT1 88 (by decide +kernel) rfl
theorem kc_X10_56 : Cond.classLink RX10 56 RX1 ∈ wT := mT1 89 (by decide +kernel) rfl
theorem kn_X1 : Cond.instantiable RX1 5 ∈ wT := mT1 90 (by decide +kernel) rfl
theorem km_X1_init : Cond.instanceMethod yX1_init ∈ wT := mT1 92 (by decide +kernel) rfl
theorem kb_X1_init : zYb yX1_init cX1_init 1 none 0 := ⟨mT1 93 (by decide +kernel) rfl, mT1 6 (by decide +kernel) rfl, by decide +kernel, by decide +kernel, by decide +kernel⟩
theorem kl_X1_3 : Cond.methodLink RX1 3 objectInit ∈ wT := mT1 94 (by decide +kernel) rfl
theorem kc_X1_9 : Cond.classLink RX1 9 RX3 ∈ wT := mT1 95 (by decide +kernel) rfl
theorem kc_X1_22 : Cond.classLink RX1 22 RX5 ∈ wT := mT1 97 (by decide +kernel) rfl
theorem kf_X1_12 : Cond.fieldLink RX1 12 (TX1 0).1 (TX1 0).2.1 (TX1 0).2.2.1 ∈ wT := mT1 98 (by decide +kernel) rfl
theorem kf_X1_18 : Cond.fieldLink RX1 18 (TX1 1).1 (TX1 1).2.1 (TX1 1).2.2.1 ∈ wT := mT1 99 (by decide +kernel) rfl
theorem kf_X1_24 : Cond.fieldLink RX1 24 (TX1 2).1 (TX1 2).2.1 (TX1 2).2.2.1 ∈ wT := mT1 100 (by decide +kernel) rfl
theorem kf_X1_28 : Cond.fieldLink RX1 28 (TX1 3).1 (TX1 3).2.1 (TX1 3).2.2.1 ∈ wT := mT1 101 (by decide +kernel) rfl
theorem kf_X1_32 : Cond.fieldLink RX1 32 (TX1 4).1 (TX1 4).2.1 (TX1 4).2.2.1 ∈ wT := mT1 102 (by decide +kernel) rfl
theorem kf_X10_10 : Cond.fieldLink RX10 10 (TX10 0).1 (TX10 0).2.1 (TX10 0).2.2.1 ∈ wT := mT1 114 (by decide +kernel) rfl
theorem kf_X10_19 : Cond.fieldLink RX10 19 (TX10 1).1 (TX10 1).2.1 (TX10 1).2.2.1 ∈ wT := mT1 115 (by decide +kernel) rfl
theorem kf_X10_26 : Cond.fieldLink RX10 26 (TX10 2).1 (TX10 2).2.1 (TX10 2).2.2.1 ∈ wT := mT1 116 (by decide +kernel) rfl
theorem kf_X10_32 : Cond.fieldLink RX10 32 (TX10 3).1 (TX10 3).2.1 (TX10 3).2.2.1 ∈ wT := mT1 117 (by decide +kernel) rfl
theorem kf_X10_36 : Cond.fieldLink RX10 36 (TX10 4).1 (TX10 4).2.1 (TX10 4).2.2.1 ∈ wT := mT1 118 (by decide +kernel) rfl
theorem kf_X10_40 : Cond.fieldLink RX10 40 (TX10 5).1 (TX10 5).2.1 (TX10 5).2.2.1 ∈ wT := mT1 119 (by decide +kernel) rfl
theorem kf_X10_43 : Cond.fieldLink RX10 43 (TX10 6).1 (TX10 6).2.1 (TX10 6).2.2.1 ∈ wT := mT1 120 (by decide +kernel) rfl
theorem kf_X10_49 : Cond.fieldLink RX10 49 (TX10 7).1 (TX10 7).2.1 (TX10 7).2.2.1 ∈ wT := mT1 121 (by decide +kernel) rfl
theorem kf_X10_53 : Cond.fieldLink RX10 53 (TX10 8).1 (TX10 8).2.1 (TX10 8).2.2.1 ∈ wT := mT1 122 (by decide +kernel) rfl
theorem kf_X10_59 : Cond.fieldLink RX10 59 (TX10 9).1 (TX10 9).2.1 (TX10 9).2.2.1 ∈ wT := mT1 123 (by decide +kernel) rfl
theorem kf_X10_63 : Cond.fieldLink RX10 63 (TX10 10).1 (TX10 10).2.1 (TX10 10).2.2.1 ∈ wT := mT1 124 (by decide +kernel) rfl
theorem kf_X10_67 : Cond.fieldLink RX10 67 (TX10 11).1 (TX10 11).2.1 (TX10 11).2.2.1 ∈ wT := mT1 125 (by decide +kernel) rfl
theorem kf_X10_70 : Cond.fieldLink RX10 70 (TX10 12).1 (TX10 12).2.1 (TX10 12).2.2.1 ∈ wT := mT1 126 (by decide +kernel) rfl
theorem kl_L_13 : Cond.methodLink RL 13 yX10_root ∈ wT := mT1 154 (by decide +kernel) rfl
theorem km_X10_root : Cond.instanceMethod yX10_root ∈ wT := mT1 155 (by decide +kernel) rfl
theorem kb_X10_root : zYb yX10_root cX10_root 4 (some .int) 2 := ⟨mT1 157 (by decide +kernel) rfl, mT1 1 (by decide +kernel) rfl, by decide +kernel, by decide +kernel, by decide +kernel⟩
theorem kl_X10_73 : Cond.methodLink RX10 73 yX10_isHost ∈ wT := mT1 158 (by decide +kernel) rfl
theorem ks_X10_isHost : Cond.static yX10_isHost ∈ wT := mT1 159 (by decide +kernel) rfl
theorem kb_X10_isHost : zYb yX10_isHost cX10_isHost 1 (some .boolean) 1 := ⟨mT1 160 (by decide +kernel) rfl, mT1 1 (by decide +kernel) rfl, by decide +kernel, by decide +kernel, by decide +kernel⟩
theorem kl_X10_77 : Cond.methodLink RX10 77 yX10_refuse ∈ wT := mT1 161 (by decide +kernel) rfl
theorem km_X10_refuse : Cond.instanceMethod yX10_refuse ∈ wT := mT1 163 (by decide +kernel) rfl
theorem kb_X10_refuse : zYb yX10_refuse cX10_refuse 3 (some .int) 1 := ⟨mT1 164 (by decide +kernel) rfl, mT1 1 (by decide +kernel) rfl, by decide +kernel, by decide +kernel, by decide +kernel⟩
theorem kl_X10_81 : Cond.methodLink RX10 81 yX6_make ∈ wT := mT1 165 (by decide +kernel) rfl
theorem km_X6_make : Cond.instanceMethod yX6_make ∈ wT := mT1 166 (by decide +kernel) rfl
theorem kb_X6_make : zYb yX6_make cX6_make 5 (some (.object "FarHold$Thing")) 3 := ⟨mT1 168 (by decide +kernel) rfl, mT1 2 (by decide +kernel) rfl, by decide +kernel, by decide +kernel, by decide +kernel⟩
theorem kn_X5 : Cond.instantiable RX5 11 ∈ wT := mT1 169 (by decide +kernel) rfl
theorem kl_X6_25 : Cond.methodLink RX6 25 yX5_init ∈ wT := mT1 170 (by decide +kernel) rfl
theorem km_X5_init : Cond.instanceMethod yX5_init ∈ wT := mT1 171 (by decide +kernel) rfl
theorem kb_X5_init : zYb yX5_init cX5_init 6 none 4 := ⟨mT1 172 (by decide +kernel) rfl, mT1 8 (by decide +kernel) rfl, by decide +kernel, by decide +kernel, by decide +kernel⟩
theorem kl_X5_3 : Cond.methodLink RX5 3 objectInit ∈ wT := mT1 173 (by decide +kernel) rfl
theorem kl_X5_32 : Cond.methodLink RX5 32 yJ9_min_7cf53 ∈ wT := mT1 174 (by decide +kernel) rfl
theorem ks_J9_min_7cf53 : Cond.static yJ9_min_7cf53 ∈ wT := mT1 175 (by decide +kernel) rfl
theorem kq_J9_min_7cf53 : Cond.code yJ9_min_7cf53 cJ9_min_7cf53 2 (some .int) ∈ wT := mT1 176 (by decide +kernel) rfl
theorem kl_X5_38 : Cond.methodLink RX5 38 yJ9_max_7cf53 ∈ wT := mT1 177 (by decide +kernel) rfl
theorem ks_J9_max_7cf53 : Cond.static yJ9_max_7cf53 ∈ wT := mT1 178 (by decide +kernel) rfl
theorem kq_J9_max_7cf53 : Cond.code yJ9_max_7cf53 cJ9_max_7cf53 2 (some .int) ∈ wT := mT1 179 (by decide +kernel) rfl
theorem kc_X5_10 : Cond.classLink RX5 10 RX5 ∈ wT := mT1 180 (by decide +kernel) rfl
theorem kc_X5_54 : Cond.classLink RX5 54 RX4 ∈ wT := mT1 181 (by decide +kernel) rfl
theorem kf_X5_41 : Cond.fieldLink RX5 41 (TX5 0).1 (TX5 0).2.1 (TX5 0).2.2.1 ∈ wT := mT1 183 (by decide +kernel) rfl
theorem kf_X9_48 : Cond.fieldLink RX9 48 (TX5 0).1 (TX5 0).2.1 (TX5 0).2.2.1 ∈ wT := mT1 184 (by decide +kernel) rfl
theorem kf_X3_29 : Cond.fieldLink RX3 29 (TX5 0).1 (TX5 0).2.1 (TX5 0).2.2.1 ∈ wT := mT1 185 (by decide +kernel) rfl
theorem kf_X10_89 : Cond.fieldLink RX10 89 (TX5 0).1 (TX5 0).2.1 (TX5 0).2.2.1 ∈ wT := mT1 186 (by decide +kernel) rfl
theorem kf_X1_119 : Cond.fieldLink RX1 119 (TX5 0).1 (TX5 0).2.1 (TX5 0).2.2.1 ∈ wT := mT1 187 (by decide +kernel) rfl
theorem kf_X5_44 : Cond.fieldLink RX5 44 (TX5 1).1 (TX5 1).2.1 (TX5 1).2.2.1 ∈ wT := mT1 188 (by decide +kernel) rfl
theorem kf_X1_53 : Cond.fieldLink RX1 53 (TX5 1).1 (TX5 1).2.1 (TX5 1).2.2.1 ∈ wT := mT1 189 (by decide +kernel) rfl
theorem kf_X6_32 : Cond.fieldLink RX6 32 (TX5 1).1 (TX5 1).2.1 (TX5 1).2.2.1 ∈ wT := mT1 190 (by decide +kernel) rfl
theorem kf_X10_173 : Cond.fieldLink RX10 173 (TX5 1).1 (TX5 1).2.1 (TX5 1).2.2.1 ∈ wT := mT1 191 (by decide +kernel) rfl
theorem kf_X5_47 : Cond.fieldLink RX5 47 (TX5 2).1 (TX5 2).2.1 (TX5 2).2.2.1 ∈ wT := mT1 192 (by decide +kernel) rfl
theorem kf_X10_109 : Cond.fieldLink RX10 109 (TX5 2).1 (TX5 2).2.1 (TX5 2).2.2.1 ∈ wT := mT1 193 (by decide +kernel) rfl
theorem kf_X9_51 : Cond.fieldLink RX9 51 (TX5 2).1 (TX5 2).2.1 (TX5 2).2.2.1 ∈ wT := mT1 194 (by decide +kernel) rfl
theorem kf_X2_21 : Cond.fieldLink RX2 21 (TX5 2).1 (TX5 2).2.1 (TX5 2).2.2.1 ∈ wT := mT1 195 (by decide +kernel) rfl
theorem kf_X6_35 : Cond.fieldLink RX6 35 (TX5 2).1 (TX5 2).2.1 (TX5 2).2.2.1 ∈ wT := mT1 196 (by decide +kernel) rfl
theorem kf_X5_50 : Cond.fieldLink RX5 50 (TX5 3).1 (TX5 3).2.1 (TX5 3).2.2.1 ∈ wT := mT1 197 (by decide +kernel) rfl
theorem kf_X5_56 : Cond.fieldLink RX5 56 (TX5 4).1 (TX5 4).2.1 (TX5 4).2.2.1 ∈ wT := mT1 198 (by decide +kernel) rfl
theorem kf_X5_9 : Cond.fieldLink RX5 9 (TX5 5).1 (TX5 5).2.1 (TX5 5).2.2.1 ∈ wT := mT1 199 (by decide +kernel) rfl
theorem kf_X10_112 : Cond.fieldLink RX10 112 (TX5 5).1 (TX5 5).2.1 (TX5 5).2.2.1 ∈ wT := mT1 200 (by decide +kernel) rfl
theorem kf_X5_15 : Cond.fieldLink RX5 15 (TX5 6).1 (TX5 6).2.1 (TX5 6).2.2.1 ∈ wT := mT1 201 (by decide +kernel) rfl
theorem kf_X1_82 : Cond.fieldLink RX1 82 (TX5 6).1 (TX5 6).2.1 (TX5 6).2.2.1 ∈ wT := mT1 202 (by decide +kernel) rfl
theorem kf_X6_38 : Cond.fieldLink RX6 38 (TX5 6).1 (TX5 6).2.1 (TX5 6).2.2.1 ∈ wT := mT1 203 (by decide +kernel) rfl
theorem kf_X10_180 : Cond.fieldLink RX10 180 (TX5 6).1 (TX5 6).2.1 (TX5 6).2.2.1 ∈ wT := mT1 204 (by decide +kernel) rfl
theorem kf_X5_19 : Cond.fieldLink RX5 19 (TX5 7).1 (TX5 7).2.1 (TX5 7).2.2.1 ∈ wT := mT1 205 (by decide +kernel) rfl
theorem kf_X9_54 : Cond.fieldLink RX9 54 (TX5 7).1 (TX5 7).2.1 (TX5 7).2.2.1 ∈ wT := mT1 206 (by decide +kernel) rfl
theorem kf_X6_42 : Cond.fieldLink RX6 42 (TX5 7).1 (TX5 7).2.1 (TX5 7).2.2.1 ∈ wT := mT1 207 (by decide +kernel) rfl
theorem kf_X10_184 : Cond.fieldLink RX10 184 (TX5 7).1 (TX5 7).2.1 (TX5 7).2.2.1 ∈ wT := mT1 208 (by decide +kernel) rfl
theorem kf_X5_22 : Cond.fieldLink RX5 22 (TX5 8).1 (TX5 8).2.1 (TX5 8).2.2.1 ∈ wT := mT1 209 (by decide +kernel) rfl
theorem kf_X10_163 : Cond.fieldLink RX10 163 (TX5 8).1 (TX5 8).2.1 (TX5 8).2.2.1 ∈ wT := mT1 210 (by decide +kernel) rfl
theorem kf_X5_25 : Cond.fieldLink RX5 25 (TX5 9).1 (TX5 9).2.1 (TX5 9).2.2.1 ∈ wT := mT1 211 (by decide +kernel) rfl
theorem kf_X10_166 : Cond.fieldLink RX10 166 (TX5 9).1 (TX5 9).2.1 (TX5 9).2.2.1 ∈ wT := mT1 212 (by decide +kernel) rfl
theorem kf_X5_29 : Cond.fieldLink RX5 29 (TX5 10).1 (TX5 10).2.1 (TX5 10).2.2.1 ∈ wT := mT1 213 (by decide +kernel) rfl
theorem kf_X1_116 : Cond.fieldLink RX1 116 (TX5 10).1 (TX5 10).2.1 (TX5 10).2.2.1 ∈ wT := mT1 214 (by decide +kernel) rfl
theorem kf_X6_28 : Cond.fieldLink RX6 28 (TX5 10).1 (TX5 10).2.1 (TX5 10).2.2.1 ∈ wT := mT1 215 (by decide +kernel) rfl
theorem kf_X10_170 : Cond.fieldLink RX10 170 (TX5 10).1 (TX5 10).2.1 (TX5 10).2.2.1 ∈ wT := mT1 216 (by decide +kernel) rfl
theorem kl_X10_85 : Cond.methodLink RX10 85 yX10_touch ∈ wT := mT2 0 (by decide +kernel) rfl
theorem km_X10_touch : Cond.instanceMethod yX10_touch ∈ wT := mT2 2 (by decide +kernel) rfl
theorem kb_X10_touch : zYb yX10_touch cX10_touch 2 none 1 := ⟨mT2 3 (by decide +kernel) rfl, mT1 1 (by decide +kernel) rfl, by decide +kernel, by decide +kernel, by decide +kernel⟩
theorem kl_L_18 : Cond.methodLink RL 18 yX10_leaf ∈ wT := mT2 4 (by decide +kernel) rfl
theorem km_X10_leaf : Cond.instanceMethod yX10_leaf ∈ wT := mT2 5 (by decide +kernel) rfl
theorem kb_X10_leaf : zYb yX10_leaf cX10_leaf 6 (some .int) 3 := ⟨mT2 7 (by decide +kernel) rfl, mT1 1 (by decide +kernel) rfl, by decide +kernel, by decide +kernel, by decide +kernel⟩
theorem kl_X10_94 : Cond.methodLink RX10 94 yX6_find ∈ wT := mT2 8 (by decide +kernel) rfl
theorem km_X6_find : Cond.instanceMethod yX6_find ∈ wT := mT2 9 (by decide +kernel) rfl
theorem kb_X6_find : zYb yX6_find cX6_find 3 (some (.object "FarHold$Thing")) 1 := ⟨mT2 11 (by decide +kernel) rfl, mT1 2 (by decide +kernel) rfl, by decide +kernel, by decide +kernel, by decide +kernel⟩
theorem kl_X10_98 : Cond.methodLink RX10 98 yX5_hasPlaces ∈ wT := mT2 12 (by decide +kernel) rfl
theorem km_X5_hasPlaces : Cond.instanceMethod yX5_hasPlaces ∈ wT := mT2 13 (by decide +kernel) rfl
theorem kb_X5_hasPlaces : zYb yX5_hasPlaces cX5_hasPlaces 1 (some .boolean) 0 := ⟨mT2 15 (by decide +kernel) rfl, mT1 8 (by decide +kernel) rfl, by decide +kernel, by decide +kernel, by decide +kernel⟩
theorem kl_X10_102 : Cond.methodLink RX10 102 yX5_hasPlace ∈ wT := mT2 16 (by decide +kernel) rfl
theorem km_X5_hasPlace : Cond.instanceMethod yX5_hasPlace ∈ wT := mT2 17 (by decide +kernel) rfl
theorem kb_X5_hasPlace : zYb yX5_hasPlace cX5_hasPlace 2 (some .boolean) 1 := ⟨mT2 19 (by decide +kernel) rfl, mT1 8 (by decide +kernel) rfl, by decide +kernel, by decide +kernel, by decide +kernel⟩
theorem kl_X10_105 : Cond.methodLink RX10 105 yX10_isNear ∈ wT := mT2 20 (by decide +kernel) rfl
theorem km_X10_isNear : Cond.instanceMethod yX10_isNear ∈ wT := mT2 22 (by decide +kernel) rfl
theorem kb_X10_isNear : zYb yX10_isNear cX10_isNear 2 (some .boolean) 1 := ⟨mT2 23 (by decide +kernel) rfl, mT1 1 (by decide +kernel) rfl, by decide +kernel, by decide +kernel, by decide +kernel⟩
theorem kl_X10_305 : Cond.methodLink RX10 305 yX3_restart ∈ wT := mT2 24 (by decide +kernel) rfl
theorem km_X3_restart : Cond.instanceMethod yX3_restart ∈ wT := mT2 25 (by decide +kernel) rfl
theorem kb_X3_restart : zYb yX3_restart cX3_restart 3 none 0 := ⟨mT2 27 (by decide +kernel) rfl, mT1 5 (by decide +kernel) rfl, by decide +kernel, by decide +kernel, by decide +kernel⟩
theorem kl_X3_25 : Cond.methodLink RX3 25 yX3_at ∈ wT := mT2 28 (by decide +kernel) rfl
theorem km_X3_at : Cond.instanceMethod yX3_at ∈ wT := mT2 29 (by decide +kernel) rfl
theorem kb_X3_at : zYb yX3_at cX3_at 2 (some (.object "FarHold$Thing")) 1 := ⟨mT2 31 (by decide +kernel) rfl, mT1 5 (by decide +kernel) rfl, by decide +kernel, by decide +kernel, by decide +kernel⟩
theorem kl_X10_308 : Cond.methodLink RX10 308 yX10_addRoots ∈ wT := mT2 32 (by decide +kernel) rfl
theorem km_X10_addRoots : Cond.instanceMethod yX10_addRoots ∈ wT := mT2 34 (by decide +kernel) rfl
theorem kb_X10_addRoots : zYb yX10_addRoots cX10_addRoots 4 none 1 := ⟨mT2 35 (by decide +kernel) rfl, mT1 1 (by decide +kernel) rfl, by decide +kernel, by decide +kernel, by decide +kernel⟩
theorem kl_X10_241 : Cond.methodLink RX10 241 yX6_size ∈ wT := mT2 36 (by decide +kernel) rfl
theorem km_X6_size : Cond.instanceMethod yX6_size ∈ wT := mT2 37 (by decide +kernel) rfl
theorem kb_X6_size : zYb yX6_size cX6_size 1 (some .int) 0 := ⟨mT2 39 (by decide +kernel) rfl, mT1 2 (by decide +kernel) rfl, by decide +kernel, by decide +kernel, by decide +kernel⟩
theorem kl_X10_314 : Cond.methodLink RX10 314 yX3_add ∈ wT := mT2 40 (by decide +kernel) rfl
theorem km_X3_add : Cond.instanceMethod yX3_add ∈ wT := mT2 41 (by decide +kernel) rfl
theorem kb_X3_add : zYb yX3_add cX3_add 2 none 1 := ⟨mT2 43 (by decide +kernel) rfl, mT1 5 (by decide +kernel) rfl, by decide +kernel, by decide +kernel, by decide +kernel⟩
theorem kl_X10_311 : Cond.methodLink RX10 311 yX3_spread ∈ wT := mT2 44 (by decide +kernel) rfl
theorem km_X3_spread : Cond.instanceMethod yX3_spread ∈ wT := mT2 45 (by decide +kernel) rfl
theorem kb_X3_spread : zYb yX3_spread cX3_spread 3 none 0 := ⟨mT2 47 (by decide +kernel) rfl, mT1 5 (by decide +kernel) rfl, by decide +kernel, by decide +kernel, by decide +kernel⟩
theorem kl_X3_43 : Cond.methodLink RX3 43 yX3_addHeldBy ∈ wT := mT2 48 (by decide +kernel) rfl
theorem km_X3_addHeldBy : Cond.instanceMethod yX3_addHeldBy ∈ wT := mT2 49 (by decide +kernel) rfl
theorem kb_X3_addHeldBy : zYb yX3_addHeldBy cX3_addHeldBy 4 none 1 := ⟨mT2 51 (by decide +kernel) rfl, mT1 5 (by decide +kernel) rfl, by decide +kernel, by decide +kernel, by decide +kernel⟩
theorem kl_X3_32 : Cond.methodLink RX3 32 yX5_placesSize ∈ wT := mT2 52 (by decide +kernel) rfl
theorem km_X5_placesSize : Cond.instanceMethod yX5_placesSize ∈ wT := mT2 53 (by decide +kernel) rfl
theorem kb_X5_placesSize : zYb yX5_placesSize cX5_placesSize 1 (some .int) 0 := ⟨mT2 55 (by decide +kernel) rfl, mT1 8 (by decide +kernel) rfl, by decide +kernel, by decide +kernel, by decide +kernel⟩
theorem kl_X3_36 : Cond.methodLink RX3 36 yX5_thingAt ∈ wT := mT2 56 (by decide +kernel) rfl
theorem km_X5_thingAt : Cond.instanceMethod yX5_thingAt ∈ wT := mT2 57 (by decide +kernel) rfl
theorem kb_X5_thingAt : zYb yX5_thingAt cX5_thingAt 2 (some (.object "FarHold$Thing")) 1 := ⟨mT2 59 (by decide +kernel) rfl, mT1 8 (by decide +kernel) rfl, by decide +kernel, by decide +kernel, by decide +kernel⟩
theorem kl_X5_60 : Cond.methodLink RX5 60 yX5_hasPlace ∈ wT := mT2 60 (by decide +kernel) rfl
theorem kl_X3_39 : Cond.methodLink RX3 39 yX3_add ∈ wT := mT2 61 (by decide +kernel) rfl
theorem kl_X10_244 : Cond.methodLink RX10 244 yX3_has ∈ wT := mT2 62 (by decide +kernel) rfl
theorem km_X3_has : Cond.instanceMethod yX3_has ∈ wT := mT2 63 (by decide +kernel) rfl
theorem kb_X3_has : zYb yX3_has cX3_has 2 (some .boolean) 1 := ⟨mT2 65 (by decide +kernel) rfl, mT1 5 (by decide +kernel) rfl, by decide +kernel, by decide +kernel, by decide +kernel⟩
theorem kl_X10_115 : Cond.methodLink RX10 115 yX5_holdThing ∈ wT := mT2 66 (by decide +kernel) rfl
theorem km_X5_holdThing : Cond.instanceMethod yX5_holdThing ∈ wT := mT2 67 (by decide +kernel) rfl
theorem kb_X5_holdThing : zYb yX5_holdThing cX5_holdThing 3 none 2 := ⟨mT2 69 (by decide +kernel) rfl, mT1 8 (by decide +kernel) rfl, by decide +kernel, by decide +kernel, by decide +kernel⟩
theorem kl_L_23 : Cond.methodLink RL 23 yX10_box ∈ wT := mT2 70 (by decide +kernel) rfl
theorem km_X10_box : Cond.instanceMethod yX10_box ∈ wT := mT2 71 (by decide +kernel) rfl
theorem kb_X10_box : zYb yX10_box cX10_box 6 (some .int) 3 := ⟨mT2 73 (by decide +kernel) rfl, mT1 1 (by decide +kernel) rfl, by decide +kernel, by decide +kernel, by decide +kernel⟩
theorem kl_L_27 : Cond.methodLink RL 27 yX10_put ∈ wT := mT2 74 (by decide +kernel) rfl
theorem km_X10_put : Cond.instanceMethod yX10_put ∈ wT := mT2 75 (by decide +kernel) rfl
theorem kb_X10_put : zYb yX10_put cX10_put 6 (some .int) 3 := ⟨mT2 77 (by decide +kernel) rfl, mT1 1 (by decide +kernel) rfl, by decide +kernel, by decide +kernel, by decide +kernel⟩
theorem kl_L_31 : Cond.methodLink RL 31 yX10_clear ∈ wT := mT2 78 (by decide +kernel) rfl
theorem km_X10_clear : Cond.instanceMethod yX10_clear ∈ wT := mT2 79 (by decide +kernel) rfl
theorem kb_X10_clear : zYb yX10_clear cX10_clear 4 (some .int) 2 := ⟨mT2 81 (by decide +kernel) rfl, mT1 1 (by decide +kernel) rfl, by decide +kernel, by decide +kernel, by decide +kernel⟩
theorem kl_X10_119 : Cond.methodLink RX10 119 yX5_holdsNothing ∈ wT := mT2 82 (by decide +kernel) rfl
theorem km_X5_holdsNothing : Cond.instanceMethod yX5_holdsNothing ∈ wT := mT2 83 (by decide +kernel) rfl
theorem kb_X5_holdsNothing : zYb yX5_holdsNothing cX5_holdsNothing 2 (some .boolean) 1 := ⟨mT2 85 (by decide +kernel) rfl, mT1 8 (by decide +kernel) rfl, by decide +kernel, by decide +kernel, by decide +kernel⟩
theorem kl_X5_64 : Cond.methodLink RX5 64 yX5_thingAt ∈ wT := mT2 86 (by decide +kernel) rfl
theorem kl_X5_68 : Cond.methodLink RX5 68 yX5_rowAt ∈ wT := mT2 87 (by decide +kernel) rfl
theorem km_X5_rowAt : Cond.instanceMethod yX5_rowAt ∈ wT := mT2 88 (by decide +kernel) rfl
theorem kb_X5_rowAt : zYb yX5_rowAt cX5_rowAt 2 (some (.object "FarHold$Row")) 1 := ⟨mT2 90 (by decide +kernel) rfl, mT1 8 (by decide +kernel) rfl, by decide +kernel, by decide +kernel, by decide +kernel⟩
theorem kl_L_35 : Cond.methodLink RL 35 yX10_row ∈ wT := mT2 91 (by decide +kernel) rfl
theorem km_X10_row : Cond.instanceMethod yX10_row ∈ wT := mT2 92 (by decide +kernel) rfl
theorem kb_X10_row : zYb yX10_row cX10_row 6 (some .int) 4 := ⟨mT2 94 (by decide +kernel) rfl, mT1 1 (by decide +kernel) rfl, by decide +kernel, by decide +kernel, by decide +kernel⟩
theorem kc_X10_122 : Cond.classLink RX10 122 RX4 ∈ wT := mT2 95 (by decide +kernel) rfl
theorem kn_X4 : Cond.instantiable RX4 2 ∈ wT := mT2 96 (by decide +kernel) rfl
theorem kl_X10_124 : Cond.methodLink RX10 124 yX4_init ∈ wT := mT2 97 (by decide +kernel) rfl
theorem km_X4_init : Cond.instanceMethod yX4_init ∈ wT := mT2 98 (by decide +kernel) rfl
theorem kb_X4_init : zYb yX4_init cX4_init 3 none 2 := ⟨mT2 99 (by decide +kernel) rfl, mT1 10 (by decide +kernel) rfl, by decide +kernel, by decide +kernel, by decide +kernel⟩
theorem kl_X4_3 : Cond.methodLink RX4 3 objectInit ∈ wT := mT2 100 (by decide +kernel) rfl
theorem kl_X4_15 : Cond.methodLink RX4 15 yJ9_min_7cf53 ∈ wT := mT2 101 (by decide +kernel) rfl
theorem kl_X4_21 : Cond.methodLink RX4 21 yJ9_max_7cf53 ∈ wT := mT2 102 (by decide +kernel) rfl
theorem kf_X4_9 : Cond.fieldLink RX4 9 (TX4 0).1 (TX4 0).2.1 (TX4 0).2.2.1 ∈ wT := mT2 103 (by decide +kernel) rfl
theorem kf_X10_145 : Cond.fieldLink RX10 145 (TX4 0).1 (TX4 0).2.1 (TX4 0).2.2.1 ∈ wT := mT2 104 (by decide +kernel) rfl
theorem kf_X4_24 : Cond.fieldLink RX4 24 (TX4 1).1 (TX4 1).2.1 (TX4 1).2.2.1 ∈ wT := mT2 105 (by decide +kernel) rfl
theorem kp_long : Cond.arrayClass .long ∈ wT := mT2 111 (by decide +kernel) rfl
theorem kl_X10_127 : Cond.methodLink RX10 127 yX5_holdRow ∈ wT := mT2 112 (by decide +kernel) rfl
theorem km_X5_holdRow : Cond.instanceMethod yX5_holdRow ∈ wT := mT2 113 (by decide +kernel) rfl
theorem kb_X5_holdRow : zYb yX5_holdRow cX5_holdRow 3 none 2 := ⟨mT2 115 (by decide +kernel) rfl, mT1 8 (by decide +kernel) rfl, by decide +kernel, by decide +kernel, by decide +kernel⟩
theorem kl_L_42 : Cond.methodLink RL 42 yX10_set ∈ wT := mT2 116 (by decide +kernel) rfl
theorem km_X10_set : Cond.instanceMethod yX10_set ∈ wT := mT2 117 (by decide +kernel) rfl
theorem kb_X10_set : zYb yX10_set cX10_set 8 (some .int) 4 := ⟨mT2 119 (by decide +kernel) rfl, mT1 1 (by decide +kernel) rfl, by decide +kernel, by decide +kernel, by decide +kernel⟩
theorem kl_X10_131 : Cond.methodLink RX10 131 yX5_thingAt ∈ wT := mT2 120 (by decide +kernel) rfl
theorem kl_X10_134 : Cond.methodLink RX10 134 yX5_rowAt ∈ wT := mT2 121 (by decide +kernel) rfl
theorem kl_X10_138 : Cond.methodLink RX10 138 yX4_hasElement ∈ wT := mT2 122 (by decide +kernel) rfl
theorem km_X4_hasElement : Cond.instanceMethod yX4_hasElement ∈ wT := mT2 123 (by decide +kernel) rfl
theorem kb_X4_hasElement : zYb yX4_hasElement cX4_hasElement 2 (some .boolean) 1 := ⟨mT2 125 (by decide +kernel) rfl, mT1 10 (by decide +kernel) rfl, by decide +kernel, by decide +kernel, by decide +kernel⟩
theorem kl_X10_141 : Cond.methodLink RX10 141 yX4_write ∈ wT := mT2 126 (by decide +kernel) rfl
theorem km_X4_write : Cond.instanceMethod yX4_write ∈ wT := mT2 127 (by decide +kernel) rfl
theorem kb_X4_write : zYb yX4_write cX4_write 4 none 2 := ⟨mT2 129 (by decide +kernel) rfl, mT1 10 (by decide +kernel) rfl, by decide +kernel, by decide +kernel, by decide +kernel⟩
theorem kl_X4_28 : Cond.methodLink RX4 28 yX4_hasElement ∈ wT := mT2 130 (by decide +kernel) rfl
theorem kl_X4_32 : Cond.methodLink RX4 32 yX4_cut ∈ wT := mT2 131 (by decide +kernel) rfl
theorem km_X4_cut : Cond.instanceMethod yX4_cut ∈ wT := mT2 133 (by decide +kernel) rfl
theorem kb_X4_cut : zYb yX4_cut cX4_cut 3 (some .long) 1 := ⟨mT2 134 (by decide +kernel) rfl, mT1 10 (by decide +kernel) rfl, by decide +kernel, by decide +kernel, by decide +kernel⟩
theorem kl_L_47 : Cond.methodLink RL 47 yX10_copy ∈ wT := mT2 135 (by decide +kernel) rfl
theorem km_X10_copy : Cond.instanceMethod yX10_copy ∈ wT := mT2 136 (by decide +kernel) rfl
theorem kb_X10_copy : zYb yX10_copy cX10_copy 10 (some .int) 5 := ⟨mT2 138 (by decide +kernel) rfl, mT1 1 (by decide +kernel) rfl, by decide +kernel, by decide +kernel, by decide +kernel⟩
theorem kl_X10_148 : Cond.methodLink RX10 148 yX4_canTake ∈ wT := mT2 139 (by decide +kernel) rfl
theorem km_X4_canTake : Cond.instanceMethod yX4_canTake ∈ wT := mT2 140 (by decide +kernel) rfl
theorem kb_X4_canTake : zYb yX4_canTake cX4_canTake 4 (some .boolean) 3 := ⟨mT2 142 (by decide +kernel) rfl, mT1 10 (by decide +kernel) rfl, by decide +kernel, by decide +kernel, by decide +kernel⟩
theorem kl_X10_152 : Cond.methodLink RX10 152 yX4_take ∈ wT := mT2 143 (by decide +kernel) rfl
theorem km_X4_take : Cond.instanceMethod yX4_take ∈ wT := mT2 144 (by decide +kernel) rfl
theorem kb_X4_take : zYb yX4_take cX4_take 4 none 3 := ⟨mT2 146 (by decide +kernel) rfl, mT1 10 (by decide +kernel) rfl, by decide +kernel, by decide +kernel, by decide +kernel⟩
theorem kl_X4_36 : Cond.methodLink RX4 36 yX4_canTake ∈ wT := mT2 147 (by decide +kernel) rfl
theorem kl_X4_40 : Cond.methodLink RX4 40 arraycopyName ∈ wT := mT2 148 (by decide +kernel) rfl
theorem ks_rraycopyName : Cond.static arraycopyName ∈ wT := mT2 149 (by decide +kernel) rfl
theorem kna : Cond.native arraycopyName ∈ wT := mT2 150 (by decide +kernel) rfl
theorem kl_L_52 : Cond.methodLink RL 52 yX10_element ∈ wT := mT2 151 (by decide +kernel) rfl
theorem km_X10_element : Cond.instanceMethod yX10_element ∈ wT := mT2 152 (by decide +kernel) rfl
theorem kb_X10_element : zYb yX10_element cX10_element 6 (some .long) 3 := ⟨mT2 154 (by decide +kernel) rfl, mT1 1 (by decide +kernel) rfl, by decide +kernel, by decide +kernel, by decide +kernel⟩
theorem kl_X10_156 : Cond.methodLink RX10 156 yX4_read ∈ wT := mT2 155 (by decide +kernel) rfl
theorem km_X4_read : Cond.instanceMethod yX4_read ∈ wT := mT2 156 (by decide +kernel) rfl
theorem kb_X4_read : zYb yX4_read cX4_read 2 (some .long) 1 := ⟨mT2 158 (by decide +kernel) rfl, mT1 10 (by decide +kernel) rfl, by decide +kernel, by decide +kernel, by decide +kernel⟩
theorem kl_L_57 : Cond.methodLink RL 57 yX10_holds ∈ wT := mT2 159 (by decide +kernel) rfl
theorem km_X10_holds : Cond.instanceMethod yX10_holds ∈ wT := mT2 160 (by decide +kernel) rfl
theorem kb_X10_holds : zYb yX10_holds cX10_holds 6 (some .int) 2 := ⟨mT2 162 (by decide +kernel) rfl, mT1 1 (by decide +kernel) rfl, by decide +kernel, by decide +kernel, by decide +kernel⟩
theorem kl_L_61 : Cond.methodLink RL 61 yX10_thing ∈ wT := mT2 163 (by decide +kernel) rfl
theorem km_X10_thing : Cond.instanceMethod yX10_thing ∈ wT := mT2 164 (by decide +kernel) rfl
theorem kb_X10_thing : zYb yX10_thing cX10_thing 4 (some .int) 2 := ⟨mT2 166 (by decide +kernel) rfl, mT1 1 (by decide +kernel) rfl, by decide +kernel, by decide +kernel, by decide +kernel⟩
theorem kl_X10_160 : Cond.methodLink RX10 160 yX6_ever ∈ wT := mT2 167 (by decide +kernel) rfl
theorem km_X6_ever : Cond.instanceMethod yX6_ever ∈ wT := mT2 168 (by decide +kernel) rfl
theorem kb_X6_ever : zYb yX6_ever cX6_ever 2 (some (.object "FarHold$Thing")) 1 := ⟨mT2 170 (by decide +kernel) rfl, mT1 2 (by decide +kernel) rfl, by decide +kernel, by decide +kernel, by decide +kernel⟩
theorem kl_X10_176 : Cond.methodLink RX10 176 yX5_placesSize ∈ wT := mT2 171 (by decide +kernel) rfl
theorem kl_L_65 : Cond.methodLink RL 65 yX10_gate ∈ wT := mT2 172 (by decide +kernel) rfl
theorem km_X10_gate : Cond.instanceMethod yX10_gate ∈ wT := mT2 173 (by decide +kernel) rfl
theorem kb_X10_gate : zYb yX10_gate cX10_gate 5 (some .int) 2 := ⟨mT2 175 (by decide +kernel) rfl, mT1 1 (by decide +kernel) rfl, by decide +kernel, by decide +kernel, by decide +kernel⟩
theorem kl_X10_187 : Cond.methodLink RX10 187 yX6_gateAt ∈ wT := mT2 176 (by decide +kernel) rfl
theorem km_X6_gateAt : Cond.instanceMethod yX6_gateAt ∈ wT := mT2 177 (by decide +kernel) rfl
theorem kb_X6_gateAt : zYb yX6_gateAt cX6_gateAt 5 (some (.object "FarHold$Thing")) 2 := ⟨mT2 179 (by decide +kernel) rfl, mT1 2 (by decide +kernel) rfl, by decide +kernel, by decide +kernel, by decide +kernel⟩
theorem kl_X6_21 : Cond.methodLink RX6 21 yX6_find ∈ wT := mT2 180 (by decide +kernel) rfl
theorem kl_L_69 : Cond.methodLink RL 69 yX10_send ∈ wT := mT2 181 (by decide +kernel) rfl
theorem km_X10_send : Cond.instanceMethod yX10_send ∈ wT := mT2 182 (by decide +kernel) rfl
theorem kb_X10_send : zYb yX10_send cX10_send 7 (some .int) 3 := ⟨mT2 184 (by decide +kernel) rfl, mT1 1 (by decide +kernel) rfl, by decide +kernel, by decide +kernel, by decide +kernel⟩
theorem kl_X10_191 : Cond.methodLink RX10 191 yX10_sendName ∈ wT := mT2 185 (by decide +kernel) rfl
theorem km_X10_sendName : Cond.instanceMethod yX10_sendName ∈ wT := mT2 187 (by decide +kernel) rfl
theorem kb_X10_sendName : zYb yX10_sendName cX10_sendName 5 (some .int) 3 := ⟨mT2 188 (by decide +kernel) rfl, mT1 1 (by decide +kernel) rfl, by decide +kernel, by decide +kernel, by decide +kernel⟩
theorem kl_X10_238 : Cond.methodLink RX10 238 yX2_hasRoom ∈ wT := mT2 189 (by decide +kernel) rfl
theorem km_X2_hasRoom : Cond.instanceMethod yX2_hasRoom ∈ wT := mT2 190 (by decide +kernel) rfl
theorem kb_X2_hasRoom : zYb yX2_hasRoom cX2_hasRoom 2 (some .boolean) 1 := ⟨mT2 192 (by decide +kernel) rfl, mT1 3 (by decide +kernel) rfl, by decide +kernel, by decide +kernel, by decide +kernel⟩
theorem kl_X10_317 : Cond.methodLink RX10 317 yX2_fileName ∈ wT := mT2 193 (by decide +kernel) rfl
theorem km_X2_fileName : Cond.instanceMethod yX2_fileName ∈ wT := mT2 194 (by decide +kernel) rfl
theorem kb_X2_fileName : zYb yX2_fileName cX2_fileName 7 (some .int) 5 := ⟨mT2 196 (by decide +kernel) rfl, mT1 3 (by decide +kernel) rfl, by decide +kernel, by decide +kernel, by decide +kernel⟩
theorem kn_X0 : Cond.instantiable RX0 10 ∈ wT := mT2 197 (by decide +kernel) rfl
theorem kl_X2_26 : Cond.methodLink RX2 26 yX0_init ∈ wT := mT2 198 (by decide +kernel) rfl
theorem km_X0_init : Cond.instanceMethod yX0_init ∈ wT := mT2 199 (by decide +kernel) rfl
theorem kb_X0_init : zYb yX0_init cX0_init 5 none 4 := ⟨mT2 200 (by decide +kernel) rfl, mT1 12 (by decide +kernel) rfl, by decide +kernel, by decide +kernel, by decide +kernel⟩
theorem kl_X0_3 : Cond.methodLink RX0 3 objectInit ∈ wT := mT2 201 (by decide +kernel) rfl
theorem kf_X0_33 : Cond.fieldLink RX0 33 (TX0 0).1 (TX0 0).2.1 (TX0 0).2.2.1 ∈ wT := mT2 202 (by decide +kernel) rfl
theorem kf_X10_207 : Cond.fieldLink RX10 207 (TX0 0).1 (TX0 0).2.1 (TX0 0).2.2.1 ∈ wT := mT2 203 (by decide +kernel) rfl
theorem kf_X0_36 : Cond.fieldLink RX0 36 (TX0 1).1 (TX0 1).2.1 (TX0 1).2.2.1 ∈ wT := mT2 204 (by decide +kernel) rfl
theorem kf_X10_211 : Cond.fieldLink RX10 211 (TX0 1).1 (TX0 1).2.1 (TX0 1).2.2.1 ∈ wT := mT2 205 (by decide +kernel) rfl
theorem kf_X0_39 : Cond.fieldLink RX0 39 (TX0 2).1 (TX0 2).2.1 (TX0 2).2.2.1 ∈ wT := mT2 206 (by decide +kernel) rfl
theorem kf_X10_208 : Cond.fieldLink RX10 208 (TX0 2).1 (TX0 2).2.1 (TX0 2).2.2.1 ∈ wT := mT2 207 (by decide +kernel) rfl
theorem kf_X0_42 : Cond.fieldLink RX0 42 (TX0 3).1 (TX0 3).2.1 (TX0 3).2.2.1 ∈ wT := mT2 208 (by decide +kernel) rfl
theorem kf_X1_101 : Cond.fieldLink RX1 101 (TX0 3).1 (TX0 3).2.1 (TX0 3).2.2.1 ∈ wT := mT2 209 (by decide +kernel) rfl
theorem kf_X2_63 : Cond.fieldLink RX2 63 (TX0 3).1 (TX0 3).2.1 (TX0 3).2.2.1 ∈ wT := mT2 210 (by decide +kernel) rfl
theorem kf_X10_214 : Cond.fieldLink RX10 214 (TX0 3).1 (TX0 3).2.1 (TX0 3).2.2.1 ∈ wT := mT2 211 (by decide +kernel) rfl
theorem kf_X0_9 : Cond.fieldLink RX0 9 (TX0 4).1 (TX0 4).2.1 (TX0 4).2.2.1 ∈ wT := mT2 212 (by decide +kernel) rfl
theorem kf_X2_29 : Cond.fieldLink RX2 29 (TX0 4).1 (TX0 4).2.1 (TX0 4).2.2.1 ∈ wT := mT2 213 (by decide +kernel) rfl
theorem kf_X10_217 : Cond.fieldLink RX10 217 (TX0 4).1 (TX0 4).2.1 (TX0 4).2.2.1 ∈ wT := mT2 214 (by decide +kernel) rfl
theorem kf_X0_15 : Cond.fieldLink RX0 15 (TX0 5).1 (TX0 5).2.1 (TX0 5).2.2.1 ∈ wT := mT2 215 (by decide +kernel) rfl
theorem kf_X1_98 : Cond.fieldLink RX1 98 (TX0 5).1 (TX0 5).2.1 (TX0 5).2.2.1 ∈ wT := mT2 216 (by decide +kernel) rfl
theorem kf_X2_32 : Cond.fieldLink RX2 32 (TX0 5).1 (TX0 5).2.1 (TX0 5).2.2.1 ∈ wT := mT2 217 (by decide +kernel) rfl
theorem kf_X10_218 : Cond.fieldLink RX10 218 (TX0 5).1 (TX0 5).2.1 (TX0 5).2.2.1 ∈ wT := mT2 218 (by decide +kernel) rfl
theorem kf_X0_19 : Cond.fieldLink RX0 19 (TX0 6).1 (TX0 6).2.1 (TX0 6).2.2.1 ∈ wT := mT2 219 (by decide +kernel) rfl
theorem kf_X2_36 : Cond.fieldLink RX2 36 (TX0 6).1 (TX0 6).2.1 (TX0 6).2.2.1 ∈ wT := mT2 220 (by decide +kernel) rfl
theorem kf_X10_221 : Cond.fieldLink RX10 221 (TX0 6).1 (TX0 6).2.1 (TX0 6).2.2.1 ∈ wT := mT2 221 (by decide +kernel) rfl
theorem kf_X0_22 : Cond.fieldLink RX0 22 (TX0 7).1 (TX0 7).2.1 (TX0 7).2.2.1 ∈ wT := mT2 222 (by decide +kernel) rfl
theorem kf_X2_48 : Cond.fieldLink RX2 48 (TX0 7).1 (TX0 7).2.1 (TX0 7).2.2.1 ∈ wT := mT2 223 (by decide +kernel) rfl
theorem kf_X10_224 : Cond.fieldLink RX10 224 (TX0 7).1 (TX0 7).2.1 (TX0 7).2.2.1 ∈ wT := mT2 224 (by decide +kernel) rfl
theorem kf_X0_26 : Cond.fieldLink RX0 26 (TX0 8).1 (TX0 8).2.1 (TX0 8).2.2.1 ∈ wT := mT2 225 (by decide +kernel) rfl
theorem kf_X2_52 : Cond.fieldLink RX2 52 (TX0 8).1 (TX0 8).2.1 (TX0 8).2.2.1 ∈ wT := mT2 226 (by decide +kernel) rfl
theorem kf_X10_229 : Cond.fieldLink RX10 229 (TX0 8).1 (TX0 8).2.1 (TX0 8).2.2.1 ∈ wT := mT2 227 (by decide +kernel) rfl
theorem kf_X0_29 : Cond.fieldLink RX0 29 (TX0 9).1 (TX0 9).2.1 (TX0 9).2.2.1 ∈ wT := mT2 228 (by decide +kernel) rfl
theorem kf_X1_92 : Cond.fieldLink RX1 92 (TX0 9).1 (TX0 9).2.1 (TX0 9).2.2.1 ∈ wT := mT2 229 (by decide +kernel) rfl
theorem kf_X2_59 : Cond.fieldLink RX2 59 (TX0 9).1 (TX0 9).2.1 (TX0 9).2.2.1 ∈ wT := mT2 230 (by decide +kernel) rfl
theorem kf_X10_198 : Cond.fieldLink RX10 198 (TX0 9).1 (TX0 9).2.1 (TX0 9).2.2.1 ∈ wT := mT2 231 (by decide +kernel) rfl
theorem kl_X2_39 : Cond.methodLink RX2 39 yX2_file ∈ wT := mT3 13 (by decide +kernel) rfl
theorem km_X2_file : Cond.instanceMethod yX2_file ∈ wT := mT3 15 (by decide +kernel) rfl
theorem kb_X2_file : zYb yX2_file cX2_file 2 (some .int) 1 := ⟨mT3 16 (by decide +kernel) rfl, mT1 3 (by decide +kernel) rfl, by decide +kernel, by decide +kernel, by decide +kernel⟩
theorem kl_X10_321 : Cond.methodLink RX10 321 yX7_add ∈ wT := mT3 17 (by decide +kernel) rfl
theorem km_X7_add : Cond.instanceMethod yX7_add ∈ wT := mT3 18 (by decide +kernel) rfl
theorem kb_X7_add : zYb yX7_add cX7_add 4 (some .boolean) 3 := ⟨mT3 20 (by decide +kernel) rfl, mT1 4 (by decide +kernel) rfl, by decide +kernel, by decide +kernel, by decide +kernel⟩
theorem kn_X8 : Cond.instantiable RX8 3 ∈ wT := mT3 21 (by decide +kernel) rfl
theorem kl_X7_21 : Cond.methodLink RX7 21 yX8_init ∈ wT := mT3 22 (by decide +kernel) rfl
theorem km_X8_init : Cond.instanceMethod yX8_init ∈ wT := mT3 23 (by decide +kernel) rfl
theorem kb_X8_init : zYb yX8_init cX8_init 4 none 3 := ⟨mT3 24 (by decide +kernel) rfl, mT1 13 (by decide +kernel) rfl, by decide +kernel, by decide +kernel, by decide +kernel⟩
theorem kl_X8_1 : Cond.methodLink RX8 1 objectInit ∈ wT := mT3 25 (by decide +kernel) rfl
theorem kf_X8_7 : Cond.fieldLink RX8 7 (TX8 0).1 (TX8 0).2.1 (TX8 0).2.2.1 ∈ wT := mT3 26 (by decide +kernel) rfl
theorem kf_X1_113 : Cond.fieldLink RX1 113 (TX8 0).1 (TX8 0).2.1 (TX8 0).2.2.1 ∈ wT := mT3 27 (by decide +kernel) rfl
theorem kf_X7_24 : Cond.fieldLink RX7 24 (TX8 0).1 (TX8 0).2.1 (TX8 0).2.2.1 ∈ wT := mT3 28 (by decide +kernel) rfl
theorem kf_X10_363 : Cond.fieldLink RX10 363 (TX8 0).1 (TX8 0).2.1 (TX8 0).2.2.1 ∈ wT := mT3 29 (by decide +kernel) rfl
theorem kf_X8_13 : Cond.fieldLink RX8 13 (TX8 1).1 (TX8 1).2.1 (TX8 1).2.2.1 ∈ wT := mT3 30 (by decide +kernel) rfl
theorem kf_X1_110 : Cond.fieldLink RX1 110 (TX8 1).1 (TX8 1).2.1 (TX8 1).2.2.1 ∈ wT := mT3 31 (by decide +kernel) rfl
theorem kf_X10_368 : Cond.fieldLink RX10 368 (TX8 1).1 (TX8 1).2.1 (TX8 1).2.2.1 ∈ wT := mT3 32 (by decide +kernel) rfl
theorem kf_X8_16 : Cond.fieldLink RX8 16 (TX8 2).1 (TX8 2).2.1 (TX8 2).2.2.1 ∈ wT := mT3 33 (by decide +kernel) rfl
theorem kf_X10_369 : Cond.fieldLink RX10 369 (TX8 2).1 (TX8 2).2.1 (TX8 2).2.2.1 ∈ wT := mT3 34 (by decide +kernel) rfl
theorem kl_X10_324 : Cond.methodLink RX10 324 yX2_fileOfWeight ∈ wT := mT3 42 (by decide +kernel) rfl
theorem km_X2_fileOfWeight : Cond.instanceMethod yX2_fileOfWeight ∈ wT := mT3 43 (by decide +kernel) rfl
theorem kb_X2_fileOfWeight : zYb yX2_fileOfWeight cX2_fileOfWeight 7 (some .int) 5 := ⟨mT3 45 (by decide +kernel) rfl, mT1 3 (by decide +kernel) rfl, by decide +kernel, by decide +kernel, by decide +kernel⟩
theorem kl_L_73 : Cond.methodLink RL 73 yX10_deliver ∈ wT := mT3 46 (by decide +kernel) rfl
theorem km_X10_deliver : Cond.instanceMethod yX10_deliver ∈ wT := mT3 47 (by decide +kernel) rfl
theorem kb_X10_deliver : zYb yX10_deliver cX10_deliver 3 (some .int) 1 := ⟨mT3 49 (by decide +kernel) rfl, mT1 1 (by decide +kernel) rfl, by decide +kernel, by decide +kernel, by decide +kernel⟩
theorem kl_X10_195 : Cond.methodLink RX10 195 yX2_find ∈ wT := mT3 50 (by decide +kernel) rfl
theorem km_X2_find : Cond.instanceMethod yX2_find ∈ wT := mT3 51 (by decide +kernel) rfl
theorem kb_X2_find : zYb yX2_find cX2_find 2 (some (.object "FarHold$Letter")) 1 := ⟨mT3 53 (by decide +kernel) rfl, mT1 3 (by decide +kernel) rfl, by decide +kernel, by decide +kernel, by decide +kernel⟩
theorem kl_X10_203 : Cond.methodLink RX10 203 yX10_arrive ∈ wT := mT3 54 (by decide +kernel) rfl
theorem km_X10_arrive : Cond.instanceMethod yX10_arrive ∈ wT := mT3 56 (by decide +kernel) rfl
theorem kb_X10_arrive : zYb yX10_arrive cX10_arrive 2 (some .boolean) 1 := ⟨mT3 57 (by decide +kernel) rfl, mT1 1 (by decide +kernel) rfl, by decide +kernel, by decide +kernel, by decide +kernel⟩
theorem kl_X10_328 : Cond.methodLink RX10 328 yX10_arriveName ∈ wT := mT3 58 (by decide +kernel) rfl
theorem km_X10_arriveName : Cond.instanceMethod yX10_arriveName ∈ wT := mT3 60 (by decide +kernel) rfl
theorem kb_X10_arriveName : zYb yX10_arriveName cX10_arriveName 3 (some .boolean) 1 := ⟨mT3 61 (by decide +kernel) rfl, mT1 1 (by decide +kernel) rfl, by decide +kernel, by decide +kernel, by decide +kernel⟩
theorem kl_X10_346 : Cond.methodLink RX10 346 yX5_takeFromExit ∈ wT := mT3 62 (by decide +kernel) rfl
theorem km_X5_takeFromExit : Cond.instanceMethod yX5_takeFromExit ∈ wT := mT3 63 (by decide +kernel) rfl
theorem kb_X5_takeFromExit : zYb yX5_takeFromExit cX5_takeFromExit 2 none 1 := ⟨mT3 65 (by decide +kernel) rfl, mT1 8 (by decide +kernel) rfl, by decide +kernel, by decide +kernel, by decide +kernel⟩
theorem kl_X10_349 : Cond.methodLink RX10 349 yX10_gateWithMore ∈ wT := mT3 66 (by decide +kernel) rfl
theorem km_X10_gateWithMore : Cond.instanceMethod yX10_gateWithMore ∈ wT := mT3 68 (by decide +kernel) rfl
theorem kb_X10_gateWithMore : zYb yX10_gateWithMore cX10_gateWithMore 5 (some (.object "FarHold$Thing")) 3 := ⟨mT3 69 (by decide +kernel) rfl, mT1 1 (by decide +kernel) rfl, by decide +kernel, by decide +kernel, by decide +kernel⟩
theorem kl_X10_331 : Cond.methodLink RX10 331 yX10_arriveMore ∈ wT := mT3 70 (by decide +kernel) rfl
theorem km_X10_arriveMore : Cond.instanceMethod yX10_arriveMore ∈ wT := mT3 72 (by decide +kernel) rfl
theorem kb_X10_arriveMore : zYb yX10_arriveMore cX10_arriveMore 2 (some .boolean) 1 := ⟨mT3 73 (by decide +kernel) rfl, mT1 1 (by decide +kernel) rfl, by decide +kernel, by decide +kernel, by decide +kernel⟩
theorem kl_X10_334 : Cond.methodLink RX10 334 yX10_arriveGive ∈ wT := mT3 74 (by decide +kernel) rfl
theorem km_X10_arriveGive : Cond.instanceMethod yX10_arriveGive ∈ wT := mT3 76 (by decide +kernel) rfl
theorem kb_X10_arriveGive : zYb yX10_arriveGive cX10_arriveGive 5 (some .boolean) 1 := ⟨mT3 77 (by decide +kernel) rfl, mT1 1 (by decide +kernel) rfl, by decide +kernel, by decide +kernel, by decide +kernel⟩
theorem kl_X10_353 : Cond.methodLink RX10 353 yX7_firstFor ∈ wT := mT3 78 (by decide +kernel) rfl
theorem km_X7_firstFor : Cond.instanceMethod yX7_firstFor ∈ wT := mT3 79 (by decide +kernel) rfl
theorem kb_X7_firstFor : zYb yX7_firstFor cX7_firstFor 4 (some .int) 1 := ⟨mT3 81 (by decide +kernel) rfl, mT1 4 (by decide +kernel) rfl, by decide +kernel, by decide +kernel, by decide +kernel⟩
theorem kl_X10_356 : Cond.methodLink RX10 356 yX7_at ∈ wT := mT3 82 (by decide +kernel) rfl
theorem km_X7_at : Cond.instanceMethod yX7_at ∈ wT := mT3 83 (by decide +kernel) rfl
theorem kb_X7_at : zYb yX7_at cX7_at 2 (some (.object "FarHold$WaitingName")) 1 := ⟨mT3 85 (by decide +kernel) rfl, mT1 4 (by decide +kernel) rfl, by decide +kernel, by decide +kernel, by decide +kernel⟩
theorem kl_X10_360 : Cond.methodLink RX10 360 yX7_remove ∈ wT := mT3 86 (by decide +kernel) rfl
theorem km_X7_remove : Cond.instanceMethod yX7_remove ∈ wT := mT3 87 (by decide +kernel) rfl
theorem kb_X7_remove : zYb yX7_remove cX7_remove 3 none 1 := ⟨mT3 89 (by decide +kernel) rfl, mT1 4 (by decide +kernel) rfl, by decide +kernel, by decide +kernel, by decide +kernel⟩
theorem kl_X7_28 : Cond.methodLink RX7 28 yX7_at ∈ wT := mT3 90 (by decide +kernel) rfl
theorem kl_X10_337 : Cond.methodLink RX10 337 yX10_arriveHome ∈ wT := mT3 91 (by decide +kernel) rfl
theorem km_X10_arriveHome : Cond.instanceMethod yX10_arriveHome ∈ wT := mT3 93 (by decide +kernel) rfl
theorem kb_X10_arriveHome : zYb yX10_arriveHome cX10_arriveHome 2 (some .boolean) 1 := ⟨mT3 94 (by decide +kernel) rfl, mT1 1 (by decide +kernel) rfl, by decide +kernel, by decide +kernel, by decide +kernel⟩
theorem kl_X10_340 : Cond.methodLink RX10 340 yX10_arriveStep ∈ wT := mT3 95 (by decide +kernel) rfl
theorem km_X10_arriveStep : Cond.instanceMethod yX10_arriveStep ∈ wT := mT3 97 (by decide +kernel) rfl
theorem kb_X10_arriveStep : zYb yX10_arriveStep cX10_arriveStep 6 (some .boolean) 1 := ⟨mT3 98 (by decide +kernel) rfl, mT1 1 (by decide +kernel) rfl, by decide +kernel, by decide +kernel, by decide +kernel⟩
theorem kl_X10_370 : Cond.methodLink RX10 370 yX9_hasPassed ∈ wT := mT3 99 (by decide +kernel) rfl
theorem km_X9_hasPassed : Cond.instanceMethod yX9_hasPassed ∈ wT := mT3 100 (by decide +kernel) rfl
theorem kb_X9_hasPassed : zYb yX9_hasPassed cX9_hasPassed 2 (some .boolean) 1 := ⟨mT3 102 (by decide +kernel) rfl, mT1 14 (by decide +kernel) rfl, by decide +kernel, by decide +kernel, by decide +kernel⟩
theorem kl_X10_373 : Cond.methodLink RX10 373 yX10_gatesToMeet ∈ wT := mT3 103 (by decide +kernel) rfl
theorem km_X10_gatesToMeet : Cond.instanceMethod yX10_gatesToMeet ∈ wT := mT3 105 (by decide +kernel) rfl
theorem kb_X10_gatesToMeet : zYb yX10_gatesToMeet cX10_gatesToMeet 6 (some .int) 2 := ⟨mT3 106 (by decide +kernel) rfl, mT1 1 (by decide +kernel) rfl, by decide +kernel, by decide +kernel, by decide +kernel⟩
theorem kl_X10_388 : Cond.methodLink RX10 388 yX3_size ∈ wT := mT3 107 (by decide +kernel) rfl
theorem km_X3_size : Cond.instanceMethod yX3_size ∈ wT := mT3 108 (by decide +kernel) rfl
theorem kb_X3_size : zYb yX3_size cX3_size 1 (some .int) 0 := ⟨mT3 110 (by decide +kernel) rfl, mT1 5 (by decide +kernel) rfl, by decide +kernel, by decide +kernel, by decide +kernel⟩
theorem kl_X10_389 : Cond.methodLink RX10 389 yX3_at ∈ wT := mT3 111 (by decide +kernel) rfl
theorem kl_X10_391 : Cond.methodLink RX10 391 yX9_hasMet ∈ wT := mT3 112 (by decide +kernel) rfl
theorem km_X9_hasMet : Cond.instanceMethod yX9_hasMet ∈ wT := mT3 113 (by decide +kernel) rfl
theorem kb_X9_hasMet : zYb yX9_hasMet cX9_hasMet 2 (some .boolean) 1 := ⟨mT3 115 (by decide +kernel) rfl, mT1 14 (by decide +kernel) rfl, by decide +kernel, by decide +kernel, by decide +kernel⟩
theorem kl_X10_377 : Cond.methodLink RX10 377 yX10_countOf ∈ wT := mT3 116 (by decide +kernel) rfl
theorem km_X10_countOf : Cond.instanceMethod yX10_countOf ∈ wT := mT3 118 (by decide +kernel) rfl
theorem kb_X10_countOf : zYb yX10_countOf cX10_countOf 2 (some .int) 1 := ⟨mT3 119 (by decide +kernel) rfl, mT1 1 (by decide +kernel) rfl, by decide +kernel, by decide +kernel, by decide +kernel⟩
theorem kl_X10_380 : Cond.methodLink RX10 380 yX9_pass ∈ wT := mT3 120 (by decide +kernel) rfl
theorem km_X9_pass : Cond.instanceMethod yX9_pass ∈ wT := mT3 121 (by decide +kernel) rfl
theorem kb_X9_pass : zYb yX9_pass cX9_pass 3 none 2 := ⟨mT3 123 (by decide +kernel) rfl, mT1 14 (by decide +kernel) rfl, by decide +kernel, by decide +kernel, by decide +kernel⟩
theorem kl_X10_384 : Cond.methodLink RX10 384 yX10_meetGates ∈ wT := mT3 124 (by decide +kernel) rfl
theorem km_X10_meetGates : Cond.instanceMethod yX10_meetGates ∈ wT := mT3 126 (by decide +kernel) rfl
theorem kb_X10_meetGates : zYb yX10_meetGates cX10_meetGates 5 none 2 := ⟨mT3 127 (by decide +kernel) rfl, mT1 1 (by decide +kernel) rfl, by decide +kernel, by decide +kernel, by decide +kernel⟩
theorem kl_X10_394 : Cond.methodLink RX10 394 yX9_meet ∈ wT := mT3 128 (by decide +kernel) rfl
theorem km_X9_meet : Cond.instanceMethod yX9_meet ∈ wT := mT3 129 (by decide +kernel) rfl
theorem kb_X9_meet : zYb yX9_meet cX9_meet 3 none 2 := ⟨mT3 131 (by decide +kernel) rfl, mT1 14 (by decide +kernel) rfl, by decide +kernel, by decide +kernel, by decide +kernel⟩
theorem kl_X10_256 : Cond.methodLink RX10 256 yX2_fileOfWalk ∈ wT := mT3 132 (by decide +kernel) rfl
theorem km_X2_fileOfWalk : Cond.instanceMethod yX2_fileOfWalk ∈ wT := mT3 133 (by decide +kernel) rfl
theorem kb_X2_fileOfWalk : zYb yX2_fileOfWalk cX2_fileOfWalk 8 (some .int) 5 := ⟨mT3 135 (by decide +kernel) rfl, mT1 3 (by decide +kernel) rfl, by decide +kernel, by decide +kernel, by decide +kernel⟩
theorem kl_X10_343 : Cond.methodLink RX10 343 yX10_arriveBack ∈ wT := mT3 136 (by decide +kernel) rfl
theorem km_X10_arriveBack : Cond.instanceMethod yX10_arriveBack ∈ wT := mT3 138 (by decide +kernel) rfl
theorem kb_X10_arriveBack : zYb yX10_arriveBack cX10_arriveBack 3 (some .boolean) 1 := ⟨mT3 139 (by decide +kernel) rfl, mT1 1 (by decide +kernel) rfl, by decide +kernel, by decide +kernel, by decide +kernel⟩
theorem kl_X10_398 : Cond.methodLink RX10 398 yX9_comeBack ∈ wT := mT3 140 (by decide +kernel) rfl
theorem km_X9_comeBack : Cond.instanceMethod yX9_comeBack ∈ wT := mT3 141 (by decide +kernel) rfl
theorem kb_X9_comeBack : zYb yX9_comeBack cX9_comeBack 2 none 1 := ⟨mT3 143 (by decide +kernel) rfl, mT1 14 (by decide +kernel) rfl, by decide +kernel, by decide +kernel, by decide +kernel⟩
theorem kl_X10_401 : Cond.methodLink RX10 401 yX10_endWalk ∈ wT := mT3 144 (by decide +kernel) rfl
theorem km_X10_endWalk : Cond.instanceMethod yX10_endWalk ∈ wT := mT3 146 (by decide +kernel) rfl
theorem kb_X10_endWalk : zYb yX10_endWalk cX10_endWalk 2 none 1 := ⟨mT3 147 (by decide +kernel) rfl, mT1 1 (by decide +kernel) rfl, by decide +kernel, by decide +kernel, by decide +kernel⟩
theorem kl_X10_405 : Cond.methodLink RX10 405 yX9_isChanged ∈ wT := mT3 148 (by decide +kernel) rfl
theorem km_X9_isChanged : Cond.instanceMethod yX9_isChanged ∈ wT := mT3 149 (by decide +kernel) rfl
theorem kb_X9_isChanged : zYb yX9_isChanged cX9_isChanged 3 (some .boolean) 1 := ⟨mT3 151 (by decide +kernel) rfl, mT1 14 (by decide +kernel) rfl, by decide +kernel, by decide +kernel, by decide +kernel⟩
theorem kl_X10_409 : Cond.methodLink RX10 409 yX10_isStartAlive ∈ wT := mT3 152 (by decide +kernel) rfl
theorem km_X10_isStartAlive : Cond.instanceMethod yX10_isStartAlive ∈ wT := mT3 154 (by decide +kernel) rfl
theorem kb_X10_isStartAlive : zYb yX10_isStartAlive cX10_isStartAlive 4 (some .boolean) 1 := ⟨mT3 155 (by decide +kernel) rfl, mT1 1 (by decide +kernel) rfl, by decide +kernel, by decide +kernel, by decide +kernel⟩
theorem kl_X10_413 : Cond.methodLink RX10 413 yX10_addLiveFromOutside ∈ wT := mT3 156 (by decide +kernel) rfl
theorem km_X10_addLiveFromOutside : Cond.instanceMethod yX10_addLiveFromOutside ∈ wT := mT3 158 (by decide +kernel) rfl
theorem kb_X10_addLiveFromOutside : zYb yX10_addLiveFromOutside cX10_addLiveFromOutside 5 none 1 := ⟨mT3 159 (by decide +kernel) rfl, mT1 1 (by decide +kernel) rfl, by decide +kernel, by decide +kernel, by decide +kernel⟩
theorem kl_X10_251 : Cond.methodLink RX10 251 yX5_isAnchor ∈ wT := mT3 160 (by decide +kernel) rfl
theorem km_X5_isAnchor : Cond.instanceMethod yX5_isAnchor ∈ wT := mT3 161 (by decide +kernel) rfl
theorem kb_X5_isAnchor : zYb yX5_isAnchor cX5_isAnchor 1 (some .boolean) 0 := ⟨mT3 163 (by decide +kernel) rfl, mT1 8 (by decide +kernel) rfl, by decide +kernel, by decide +kernel, by decide +kernel⟩
theorem kl_X10_422 : Cond.methodLink RX10 422 yX9_weightMetFor ∈ wT := mT3 164 (by decide +kernel) rfl
theorem km_X9_weightMetFor : Cond.instanceMethod yX9_weightMetFor ∈ wT := mT3 165 (by decide +kernel) rfl
theorem kb_X9_weightMetFor : zYb yX9_weightMetFor cX9_weightMetFor 2 (some .int) 1 := ⟨mT3 167 (by decide +kernel) rfl, mT1 14 (by decide +kernel) rfl, by decide +kernel, by decide +kernel, by decide +kernel⟩
theorem kl_X10_425 : Cond.methodLink RX10 425 yX10_bringAlive ∈ wT := mT3 168 (by decide +kernel) rfl
theorem km_X10_bringAlive : Cond.instanceMethod yX10_bringAlive ∈ wT := mT3 170 (by decide +kernel) rfl
theorem kb_X10_bringAlive : zYb yX10_bringAlive cX10_bringAlive 2 none 1 := ⟨mT3 171 (by decide +kernel) rfl, mT1 1 (by decide +kernel) rfl, by decide +kernel, by decide +kernel, by decide +kernel⟩
theorem kl_X10_416 : Cond.methodLink RX10 416 yX3_addHeldBy ∈ wT := mT3 172 (by decide +kernel) rfl
theorem kl_X10_419 : Cond.methodLink RX10 419 yX10_revive ∈ wT := mT3 173 (by decide +kernel) rfl
theorem km_X10_revive : Cond.instanceMethod yX10_revive ∈ wT := mT3 175 (by decide +kernel) rfl
theorem kb_X10_revive : zYb yX10_revive cX10_revive 4 none 2 := ⟨mT3 176 (by decide +kernel) rfl, mT1 1 (by decide +kernel) rfl, by decide +kernel, by decide +kernel, by decide +kernel⟩
theorem kl_L_78 : Cond.methodLink RL 78 yX10_letter ∈ wT := mT3 177 (by decide +kernel) rfl
theorem km_X10_letter : Cond.instanceMethod yX10_letter ∈ wT := mT3 178 (by decide +kernel) rfl
theorem kb_X10_letter : zYb yX10_letter cX10_letter 4 (some .int) 2 := ⟨mT3 180 (by decide +kernel) rfl, mT1 1 (by decide +kernel) rfl, by decide +kernel, by decide +kernel, by decide +kernel⟩
theorem kl_L_82 : Cond.methodLink RL 82 yX10_clean ∈ wT := mT3 181 (by decide +kernel) rfl
theorem km_X10_clean : Cond.instanceMethod yX10_clean ∈ wT := mT3 182 (by decide +kernel) rfl
theorem kb_X10_clean : zYb yX10_clean cX10_clean 4 (some .int) 1 := ⟨mT3 184 (by decide +kernel) rfl, mT1 1 (by decide +kernel) rfl, by decide +kernel, by decide +kernel, by decide +kernel⟩
theorem kl_X10_232 : Cond.methodLink RX10 232 yX10_findKept ∈ wT := mT3 185 (by decide +kernel) rfl
theorem km_X10_findKept : Cond.instanceMethod yX10_findKept ∈ wT := mT3 187 (by decide +kernel) rfl
theorem kb_X10_findKept : zYb yX10_findKept cX10_findKept 4 none 1 := ⟨mT3 188 (by decide +kernel) rfl, mT1 1 (by decide +kernel) rfl, by decide +kernel, by decide +kernel, by decide +kernel⟩
theorem kl_X10_235 : Cond.methodLink RX10 235 yX10_gatesToFree ∈ wT := mT3 189 (by decide +kernel) rfl
theorem km_X10_gatesToFree : Cond.instanceMethod yX10_gatesToFree ∈ wT := mT3 191 (by decide +kernel) rfl
theorem kb_X10_gatesToFree : zYb yX10_gatesToFree cX10_gatesToFree 5 (some .int) 1 := ⟨mT3 192 (by decide +kernel) rfl, mT1 1 (by decide +kernel) rfl, by decide +kernel, by decide +kernel, by decide +kernel⟩
theorem kl_X10_247 : Cond.methodLink RX10 247 yX10_free ∈ wT := mT3 193 (by decide +kernel) rfl
theorem km_X10_free : Cond.instanceMethod yX10_free ∈ wT := mT3 195 (by decide +kernel) rfl
theorem kb_X10_free : zYb yX10_free cX10_free 2 none 1 := ⟨mT3 196 (by decide +kernel) rfl, mT1 1 (by decide +kernel) rfl, by decide +kernel, by decide +kernel, by decide +kernel⟩
theorem kl_L_86 : Cond.methodLink RL 86 yX10_freed ∈ wT := mT3 197 (by decide +kernel) rfl
theorem km_X10_freed : Cond.instanceMethod yX10_freed ∈ wT := mT3 198 (by decide +kernel) rfl
theorem kb_X10_freed : zYb yX10_freed cX10_freed 2 (some .int) 1 := ⟨mT3 200 (by decide +kernel) rfl, mT1 1 (by decide +kernel) rfl, by decide +kernel, by decide +kernel, by decide +kernel⟩
theorem kl_L_90 : Cond.methodLink RL 90 yX10_doubt ∈ wT := mT3 201 (by decide +kernel) rfl
theorem km_X10_doubt : Cond.instanceMethod yX10_doubt ∈ wT := mT3 202 (by decide +kernel) rfl
theorem kb_X10_doubt : zYb yX10_doubt cX10_doubt 4 (some .int) 1 := ⟨mT3 204 (by decide +kernel) rfl, mT1 1 (by decide +kernel) rfl, by decide +kernel, by decide +kernel, by decide +kernel⟩
end
section
theorem kn_X9 : Cond.instantiable RX9 11 ∈ wT := mT3 205 (by decide +kernel) rfl
theorem kl_X10_254 : Cond.methodLink RX10 254 yX9_init ∈ wT := mT3 206 (by decide +kernel) rfl
theorem km_X9_init : Cond.instanceMethod yX9_init ∈ wT := mT3 207 (by decide +kernel) rfl
theorem kb_X9_init : zYb yX9_init cX9_init 4 none 2 := ⟨mT3 208 (by decide +kernel) rfl, mT1 14 (by decide +kernel) rfl, by decide +kernel, by decide +kernel, by decide +kernel⟩
theorem kl_X9_3 : Cond.methodLink RX9 3 objectInit ∈ wT := mT3 209 (by decide +kernel) rfl
theorem kf_X9_41 : Cond.fieldLink RX9 41 (TX9 0).1 (TX9 0).2.1 (TX9 0).2.2.1 ∈ wT := mT3 210 (by decide +kernel) rfl
theorem kf_X10_228 : Cond.fieldLink RX10 228 (TX9 0).1 (TX9 0).2.1 (TX9 0).2.2.1 ∈ wT := mT3 211 (by decide +kernel) rfl
theorem kf_X9_44 : Cond.fieldLink RX9 44 (TX9 1).1 (TX9 1).2.1 (TX9 1).2.2.1 ∈ wT := mT3 212 (by decide +kernel) rfl
theorem kf_X2_43 : Cond.fieldLink RX2 43 (TX9 1).1 (TX9 1).2.1 (TX9 1).2.2.1 ∈ wT := mT3 213 (by decide +kernel) rfl
theorem kf_X10_263 : Cond.fieldLink RX10 263 (TX9 1).1 (TX9 1).2.1 (TX9 1).2.2.1 ∈ wT := mT3 214 (by decide +kernel) rfl
theorem kf_X9_9 : Cond.fieldLink RX9 9 (TX9 2).1 (TX9 2).2.1 (TX9 2).2.2.1 ∈ wT := mT3 215 (by decide +kernel) rfl
theorem kf_X9_15 : Cond.fieldLink RX9 15 (TX9 3).1 (TX9 3).2.1 (TX9 3).2.2.1 ∈ wT := mT3 216 (by decide +kernel) rfl
theorem kf_X9_18 : Cond.fieldLink RX9 18 (TX9 4).1 (TX9 4).2.1 (TX9 4).2.2.1 ∈ wT := mT3 217 (by decide +kernel) rfl
theorem kf_X9_22 : Cond.fieldLink RX9 22 (TX9 5).1 (TX9 5).2.1 (TX9 5).2.2.1 ∈ wT := mT3 218 (by decide +kernel) rfl
theorem kf_X9_25 : Cond.fieldLink RX9 25 (TX9 6).1 (TX9 6).2.1 (TX9 6).2.2.1 ∈ wT := mT3 219 (by decide +kernel) rfl
theorem kf_X10_260 : Cond.fieldLink RX10 260 (TX9 6).1 (TX9 6).2.1 (TX9 6).2.2.1 ∈ wT := mT3 220 (by decide +kernel) rfl
theorem kf_X9_29 : Cond.fieldLink RX9 29 (TX9 7).1 (TX9 7).2.1 (TX9 7).2.2.1 ∈ wT := mT3 221 (by decide +kernel) rfl
theorem kf_X10_266 : Cond.fieldLink RX10 266 (TX9 7).1 (TX9 7).2.1 (TX9 7).2.2.1 ∈ wT := mT3 222 (by decide +kernel) rfl
theorem kf_X9_32 : Cond.fieldLink RX9 32 (TX9 8).1 (TX9 8).2.1 (TX9 8).2.2.1 ∈ wT := mT3 223 (by decide +kernel) rfl
theorem kf_X10_269 : Cond.fieldLink RX10 269 (TX9 8).1 (TX9 8).2.1 (TX9 8).2.2.1 ∈ wT := mT3 224 (by decide +kernel) rfl
theorem kf_X9_35 : Cond.fieldLink RX9 35 (TX9 9).1 (TX9 9).2.1 (TX9 9).2.2.1 ∈ wT := mT3 225 (by decide +kernel) rfl
theorem kf_X10_272 : Cond.fieldLink RX10 272 (TX9 9).1 (TX9 9).2.1 (TX9 9).2.2.1 ∈ wT := mT3 226 (by decide +kernel) rfl
theorem kf_X9_38 : Cond.fieldLink RX9 38 (TX9 10).1 (TX9 10).2.1 (TX9 10).2.2.1 ∈ wT := mT3 227 (by decide +kernel) rfl
theorem kf_X10_275 : Cond.fieldLink RX10 275 (TX9 10).1 (TX9 10).2.1 (TX9 10).2.2.1 ∈ wT := mT3 228 (by decide +kernel) rfl
theorem kl_L_94 : Cond.methodLink RL 94 yX10_walk ∈ wT := mT4 12 (by decide +kernel) rfl
theorem km_X10_walk : Cond.instanceMethod yX10_walk ∈ wT := mT4 13 (by decide +kernel) rfl
theorem kb_X10_walk : zYb yX10_walk cX10_walk 4 (some .int) 2 := ⟨mT4 15 (by decide +kernel) rfl, mT1 1 (by decide +kernel) rfl, by decide +kernel, by decide +kernel, by decide +kernel⟩
theorem kl_L_98 : Cond.methodLink RL 98 yX10_meant ∈ wT := mT4 16 (by decide +kernel) rfl
theorem km_X10_meant : Cond.instanceMethod yX10_meant ∈ wT := mT4 17 (by decide +kernel) rfl
theorem kb_X10_meant : zYb yX10_meant cX10_meant 3 (some .boolean) 1 := ⟨mT4 19 (by decide +kernel) rfl, mT1 1 (by decide +kernel) rfl, by decide +kernel, by decide +kernel, by decide +kernel⟩
theorem kl_X10_278 : Cond.methodLink RX10 278 yX1_trace ∈ wT := mT4 20 (by decide +kernel) rfl
theorem km_X1_trace : Cond.instanceMethod yX1_trace ∈ wT := mT4 21 (by decide +kernel) rfl
theorem kb_X1_trace : zYb yX1_trace cX1_trace 6 none 3 := ⟨mT4 23 (by decide +kernel) rfl, mT1 6 (by decide +kernel) rfl, by decide +kernel, by decide +kernel, by decide +kernel⟩
theorem kl_X1_40 : Cond.methodLink RX1 40 yX3_restart ∈ wT := mT4 24 (by decide +kernel) rfl
theorem kl_X1_43 : Cond.methodLink RX1 43 yX6_size ∈ wT := mT4 25 (by decide +kernel) rfl
theorem kl_X1_49 : Cond.methodLink RX1 49 yX6_find ∈ wT := mT4 26 (by decide +kernel) rfl
theorem kl_X1_56 : Cond.methodLink RX1 56 yX1_addBehind ∈ wT := mT4 27 (by decide +kernel) rfl
theorem km_X1_addBehind : Cond.instanceMethod yX1_addBehind ∈ wT := mT4 29 (by decide +kernel) rfl
theorem kb_X1_addBehind : zYb yX1_addBehind cX1_addBehind 3 none 2 := ⟨mT4 30 (by decide +kernel) rfl, mT1 6 (by decide +kernel) rfl, by decide +kernel, by decide +kernel, by decide +kernel⟩
theorem kl_X1_122 : Cond.methodLink RX1 122 yX3_add ∈ wT := mT4 31 (by decide +kernel) rfl
theorem kl_X1_125 : Cond.methodLink RX1 125 yX1_depthOf ∈ wT := mT4 32 (by decide +kernel) rfl
theorem km_X1_depthOf : Cond.instanceMethod yX1_depthOf ∈ wT := mT4 34 (by decide +kernel) rfl
theorem kb_X1_depthOf : zYb yX1_depthOf cX1_depthOf 2 (some .int) 1 := ⟨mT4 35 (by decide +kernel) rfl, mT1 6 (by decide +kernel) rfl, by decide +kernel, by decide +kernel, by decide +kernel⟩
theorem kl_X1_60 : Cond.methodLink RX1 60 yX3_size ∈ wT := mT4 36 (by decide +kernel) rfl
theorem kl_X1_61 : Cond.methodLink RX1 61 yX3_at ∈ wT := mT4 37 (by decide +kernel) rfl
theorem kl_X1_64 : Cond.methodLink RX1 64 yX1_markNext ∈ wT := mT4 38 (by decide +kernel) rfl
theorem km_X1_markNext : Cond.instanceMethod yX1_markNext ∈ wT := mT4 40 (by decide +kernel) rfl
theorem kb_X1_markNext : zYb yX1_markNext cX1_markNext 6 none 3 := ⟨mT4 41 (by decide +kernel) rfl, mT1 6 (by decide +kernel) rfl, by decide +kernel, by decide +kernel, by decide +kernel⟩
theorem kl_X1_72 : Cond.methodLink RX1 72 yX5_placesSize ∈ wT := mT4 42 (by decide +kernel) rfl
theorem kl_X1_75 : Cond.methodLink RX1 75 yX5_thingAt ∈ wT := mT4 43 (by decide +kernel) rfl
theorem kl_X1_78 : Cond.methodLink RX1 78 yX1_markNextThing ∈ wT := mT4 44 (by decide +kernel) rfl
theorem km_X1_markNextThing : Cond.instanceMethod yX1_markNextThing ∈ wT := mT4 46 (by decide +kernel) rfl
theorem kb_X1_markNextThing : zYb yX1_markNextThing cX1_markNextThing 2 none 1 := ⟨mT4 47 (by decide +kernel) rfl, mT1 6 (by decide +kernel) rfl, by decide +kernel, by decide +kernel, by decide +kernel⟩
theorem kl_X1_86 : Cond.methodLink RX1 86 yX2_size ∈ wT := mT4 48 (by decide +kernel) rfl
theorem km_X2_size : Cond.instanceMethod yX2_size ∈ wT := mT4 49 (by decide +kernel) rfl
theorem kb_X2_size : zYb yX2_size cX2_size 1 (some .int) 0 := ⟨mT4 51 (by decide +kernel) rfl, mT1 3 (by decide +kernel) rfl, by decide +kernel, by decide +kernel, by decide +kernel⟩
theorem kl_X1_89 : Cond.methodLink RX1 89 yX2_find ∈ wT := mT4 52 (by decide +kernel) rfl
theorem kl_X1_104 : Cond.methodLink RX1 104 yX7_size ∈ wT := mT4 53 (by decide +kernel) rfl
theorem km_X7_size : Cond.instanceMethod yX7_size ∈ wT := mT4 54 (by decide +kernel) rfl
theorem kb_X7_size : zYb yX7_size cX7_size 1 (some .int) 0 := ⟨mT4 56 (by decide +kernel) rfl, mT1 4 (by decide +kernel) rfl, by decide +kernel, by decide +kernel, by decide +kernel⟩
theorem kl_X1_107 : Cond.methodLink RX1 107 yX7_at ∈ wT := mT4 57 (by decide +kernel) rfl
theorem kl_X1_68 : Cond.methodLink RX1 68 yX1_addNextByNumbers ∈ wT := mT4 58 (by decide +kernel) rfl
theorem km_X1_addNextByNumbers : Cond.instanceMethod yX1_addNextByNumbers ∈ wT := mT4 60 (by decide +kernel) rfl
theorem kb_X1_addNextByNumbers : zYb yX1_addNextByNumbers cX1_addNextByNumbers 5 none 2 := ⟨mT4 61 (by decide +kernel) rfl, mT1 6 (by decide +kernel) rfl, by decide +kernel, by decide +kernel, by decide +kernel⟩
theorem kl_X1_36 : Cond.methodLink RX1 36 yX3_has ∈ wT := mT4 62 (by decide +kernel) rfl
theorem kl_X10_282 : Cond.methodLink RX10 282 yX1_has ∈ wT := mT4 63 (by decide +kernel) rfl
theorem km_X1_has : Cond.instanceMethod yX1_has ∈ wT := mT4 64 (by decide +kernel) rfl
theorem kb_X1_has : zYb yX1_has cX1_has 2 (some .boolean) 1 := ⟨mT4 66 (by decide +kernel) rfl, mT1 6 (by decide +kernel) rfl, by decide +kernel, by decide +kernel, by decide +kernel⟩
theorem kl_L_103 : Cond.methodLink RL 103 yX10_why ∈ wT := mT4 67 (by decide +kernel) rfl
theorem km_X10_why : Cond.instanceMethod yX10_why ∈ wT := mT4 68 (by decide +kernel) rfl
theorem kb_X10_why : zYb yX10_why cX10_why 4 (some .int) 2 := ⟨mT4 70 (by decide +kernel) rfl, mT1 1 (by decide +kernel) rfl, by decide +kernel, by decide +kernel, by decide +kernel⟩
theorem kl_X10_283 : Cond.methodLink RX10 283 yX1_onTheWay ∈ wT := mT4 71 (by decide +kernel) rfl
theorem km_X1_onTheWay : Cond.instanceMethod yX1_onTheWay ∈ wT := mT4 72 (by decide +kernel) rfl
theorem kb_X1_onTheWay : zYb yX1_onTheWay cX1_onTheWay 5 (some .int) 2 := ⟨mT4 74 (by decide +kernel) rfl, mT1 6 (by decide +kernel) rfl, by decide +kernel, by decide +kernel, by decide +kernel⟩
theorem kl_X1_129 : Cond.methodLink RX1 129 yX1_beforeOf ∈ wT := mT4 75 (by decide +kernel) rfl
theorem km_X1_beforeOf : Cond.instanceMethod yX1_beforeOf ∈ wT := mT4 77 (by decide +kernel) rfl
theorem kb_X1_beforeOf : zYb yX1_beforeOf cX1_beforeOf 2 (some (.object "FarHold$Thing")) 1 := ⟨mT4 78 (by decide +kernel) rfl, mT1 6 (by decide +kernel) rfl, by decide +kernel, by decide +kernel, by decide +kernel⟩
theorem kl_L_107 : Cond.methodLink RL 107 yX10_dead ∈ wT := mT4 79 (by decide +kernel) rfl
theorem km_X10_dead : Cond.instanceMethod yX10_dead ∈ wT := mT4 80 (by decide +kernel) rfl
theorem kb_X10_dead : zYb yX10_dead cX10_dead 5 (some .int) 1 := ⟨mT4 82 (by decide +kernel) rfl, mT1 1 (by decide +kernel) rfl, by decide +kernel, by decide +kernel, by decide +kernel⟩
theorem kl_L_111 : Cond.methodLink RL 111 yX10_audit ∈ wT := mT4 83 (by decide +kernel) rfl
theorem km_X10_audit : Cond.instanceMethod yX10_audit ∈ wT := mT4 84 (by decide +kernel) rfl
theorem kb_X10_audit : zYb yX10_audit cX10_audit 4 (some .int) 2 := ⟨mT4 86 (by decide +kernel) rfl, mT1 1 (by decide +kernel) rfl, by decide +kernel, by decide +kernel, by decide +kernel⟩
theorem kl_X10_287 : Cond.methodLink RX10 287 yX6_weightOfGates ∈ wT := mT4 87 (by decide +kernel) rfl
theorem km_X6_weightOfGates : Cond.instanceMethod yX6_weightOfGates ∈ wT := mT4 88 (by decide +kernel) rfl
theorem kb_X6_weightOfGates : zYb yX6_weightOfGates cX6_weightOfGates 5 (some .int) 1 := ⟨mT4 90 (by decide +kernel) rfl, mT1 2 (by decide +kernel) rfl, by decide +kernel, by decide +kernel, by decide +kernel⟩
theorem kl_X10_291 : Cond.methodLink RX10 291 yX2_weightUnderWay ∈ wT := mT4 91 (by decide +kernel) rfl
theorem km_X2_weightUnderWay : Cond.instanceMethod yX2_weightUnderWay ∈ wT := mT4 92 (by decide +kernel) rfl
theorem kb_X2_weightUnderWay : zYb yX2_weightUnderWay cX2_weightUnderWay 5 (some .int) 1 := ⟨mT4 94 (by decide +kernel) rfl, mT1 3 (by decide +kernel) rfl, by decide +kernel, by decide +kernel, by decide +kernel⟩
theorem kl_X2_55 : Cond.methodLink RX2 55 yX2_find ∈ wT := mT4 95 (by decide +kernel) rfl
theorem kl_L_115 : Cond.methodLink RL 115 yX10_status ∈ wT := mT4 96 (by decide +kernel) rfl
theorem km_X10_status : Cond.instanceMethod yX10_status ∈ wT := mT4 97 (by decide +kernel) rfl
theorem kb_X10_status : zYb yX10_status cX10_status 3 (some .int) 1 := ⟨mT4 99 (by decide +kernel) rfl, mT1 1 (by decide +kernel) rfl, by decide +kernel, by decide +kernel, by decide +kernel⟩
theorem kl_X10_294 : Cond.methodLink RX10 294 yX6_sizeThere ∈ wT := mT4 100 (by decide +kernel) rfl
theorem km_X6_sizeThere : Cond.instanceMethod yX6_sizeThere ∈ wT := mT4 101 (by decide +kernel) rfl
theorem kb_X6_sizeThere : zYb yX6_sizeThere cX6_sizeThere 3 (some .int) 0 := ⟨mT4 103 (by decide +kernel) rfl, mT1 2 (by decide +kernel) rfl, by decide +kernel, by decide +kernel, by decide +kernel⟩
theorem kl_X10_297 : Cond.methodLink RX10 297 yX2_size ∈ wT := mT4 104 (by decide +kernel) rfl
theorem kl_X10_298 : Cond.methodLink RX10 298 yX2_sizeUnderWay ∈ wT := mT4 105 (by decide +kernel) rfl
theorem km_X2_sizeUnderWay : Cond.instanceMethod yX2_sizeUnderWay ∈ wT := mT4 106 (by decide +kernel) rfl
theorem kb_X2_sizeUnderWay : zYb yX2_sizeUnderWay cX2_sizeUnderWay 4 (some .int) 0 := ⟨mT4 108 (by decide +kernel) rfl, mT1 3 (by decide +kernel) rfl, by decide +kernel, by decide +kernel, by decide +kernel⟩
theorem kl_X10_301 : Cond.methodLink RX10 301 yX7_size ∈ wT := mT4 109 (by decide +kernel) rfl
theorem kl_X10_302 : Cond.methodLink RX10 302 yX10_sumOfCounts ∈ wT := mT4 110 (by decide +kernel) rfl
theorem km_X10_sumOfCounts : Cond.instanceMethod yX10_sumOfCounts ∈ wT := mT4 112 (by decide +kernel) rfl
theorem kb_X10_sumOfCounts : zYb yX10_sumOfCounts cX10_sumOfCounts 6 (some .int) 0 := ⟨mT4 113 (by decide +kernel) rfl, mT1 1 (by decide +kernel) rfl, by decide +kernel, by decide +kernel, by decide +kernel⟩
theorem kc_L_10 : Cond.classLink RL 10 RX11 ∈ wT := mT4 114 (by decide +kernel) rfl
theorem kn_X11 : Cond.instantiable RX11 50 ∈ wT := mT4 115 (by decide +kernel) rfl
theorem kl_L_12 : Cond.methodLink RL 12 yX11_init ∈ wT := mT4 116 (by decide +kernel) rfl
theorem km_X11_init : Cond.instanceMethod yX11_init ∈ wT := mT4 117 (by decide +kernel) rfl
theorem kb_X11_init : zYb yX11_init cX11_init 1 none 0 := ⟨mT4 118 (by decide +kernel) rfl, mT1 7 (by decide +kernel) rfl, by decide +kernel, by decide +kernel, by decide +kernel⟩
theorem kl_X11_1 : Cond.methodLink RX11 1 objectInit ∈ wT := mT4 119 (by decide +kernel) rfl
theorem kk_X11_47 : (Jvm.Cond.constant "FarHoldModel" (47 : Nat) (76800 : Int32)) ∈ wT := mT4 120 (by decide +kernel) rfl
theorem kf_X11_9 : Cond.fieldLink RX11 9 (TX11 0).1 (TX11 0).2.1 (TX11 0).2.2.1 ∈ wT := mT4 121 (by decide +kernel) rfl
theorem kf_X11_13 : Cond.fieldLink RX11 13 (TX11 1).1 (TX11 1).2.1 (TX11 1).2.2.1 ∈ wT := mT4 122 (by decide +kernel) rfl
theorem kf_X11_16 : Cond.fieldLink RX11 16 (TX11 2).1 (TX11 2).2.1 (TX11 2).2.2.1 ∈ wT := mT4 123 (by decide +kernel) rfl
theorem kf_X11_19 : Cond.fieldLink RX11 19 (TX11 3).1 (TX11 3).2.1 (TX11 3).2.2.1 ∈ wT := mT4 124 (by decide +kernel) rfl
theorem kf_X11_22 : Cond.fieldLink RX11 22 (TX11 4).1 (TX11 4).2.1 (TX11 4).2.2.1 ∈ wT := mT4 125 (by decide +kernel) rfl
theorem kf_X11_25 : Cond.fieldLink RX11 25 (TX11 5).1 (TX11 5).2.1 (TX11 5).2.2.1 ∈ wT := mT4 126 (by decide +kernel) rfl
theorem kf_X11_28 : Cond.fieldLink RX11 28 (TX11 6).1 (TX11 6).2.1 (TX11 6).2.2.1 ∈ wT := mT4 127 (by decide +kernel) rfl
theorem kf_X11_31 : Cond.fieldLink RX11 31 (TX11 7).1 (TX11 7).2.1 (TX11 7).2.2.1 ∈ wT := mT4 128 (by decide +kernel) rfl
theorem kf_X11_35 : Cond.fieldLink RX11 35 (TX11 8).1 (TX11 8).2.1 (TX11 8).2.2.1 ∈ wT := mT4 129 (by decide +kernel) rfl
theorem kf_X11_145 : Cond.fieldLink RX11 145 (TX11 9).1 (TX11 9).2.1 (TX11 9).2.2.1 ∈ wT := mT4 130 (by decide +kernel) rfl
theorem kf_X11_38 : Cond.fieldLink RX11 38 (TX11 10).1 (TX11 10).2.1 (TX11 10).2.2.1 ∈ wT := mT4 131 (by decide +kernel) rfl
theorem kf_X11_41 : Cond.fieldLink RX11 41 (TX11 11).1 (TX11 11).2.1 (TX11 11).2.2.1 ∈ wT := mT4 132 (by decide +kernel) rfl
theorem kf_X11_44 : Cond.fieldLink RX11 44 (TX11 12).1 (TX11 12).2.1 (TX11 12).2.2.1 ∈ wT := mT4 133 (by decide +kernel) rfl
theorem kf_X11_48 : Cond.fieldLink RX11 48 (TX11 13).1 (TX11 13).2.1 (TX11 13).2.2.1 ∈ wT := mT4 134 (by decide +kernel) rfl
theorem kf_X11_52 : Cond.fieldLink RX11 52 (TX11 14).1 (TX11 14).2.1 (TX11 14).2.2.1 ∈ wT := mT4 135 (by decide +kernel) rfl
theorem kf_X11_55 : Cond.fieldLink RX11 55 (TX11 15).1 (TX11 15).2.1 (TX11 15).2.2.1 ∈ wT := mT4 136 (by decide +kernel) rfl
theorem kf_X11_58 : Cond.fieldLink RX11 58 (TX11 16).1 (TX11 16).2.1 (TX11 16).2.2.1 ∈ wT := mT4 137 (by decide +kernel) rfl
theorem kf_X11_61 : Cond.fieldLink RX11 61 (TX11 17).1 (TX11 17).2.1 (TX11 17).2.2.1 ∈ wT := mT4 138 (by decide +kernel) rfl
theorem kf_X11_64 : Cond.fieldLink RX11 64 (TX11 18).1 (TX11 18).2.1 (TX11 18).2.2.1 ∈ wT := mT4 139 (by decide +kernel) rfl
theorem kf_X11_67 : Cond.fieldLink RX11 67 (TX11 19).1 (TX11 19).2.1 (TX11 19).2.2.1 ∈ wT := mT4 140 (by decide +kernel) rfl
theorem kf_X11_70 : Cond.fieldLink RX11 70 (TX11 20).1 (TX11 20).2.1 (TX11 20).2.2.1 ∈ wT := mT4 141 (by decide +kernel) rfl
theorem kf_X11_73 : Cond.fieldLink RX11 73 (TX11 21).1 (TX11 21).2.1 (TX11 21).2.2.1 ∈ wT := mT4 142 (by decide +kernel) rfl
theorem kf_X11_76 : Cond.fieldLink RX11 76 (TX11 22).1 (TX11 22).2.1 (TX11 22).2.2.1 ∈ wT := mT4 143 (by decide +kernel) rfl
theorem kf_X11_79 : Cond.fieldLink RX11 79 (TX11 23).1 (TX11 23).2.1 (TX11 23).2.2.1 ∈ wT := mT4 144 (by decide +kernel) rfl
theorem kf_X11_199 : Cond.fieldLink RX11 199 (TX11 24).1 (TX11 24).2.1 (TX11 24).2.2.1 ∈ wT := mT4 145 (by decide +kernel) rfl
theorem kf_X11_215 : Cond.fieldLink RX11 215 (TX11 25).1 (TX11 25).2.1 (TX11 25).2.2.1 ∈ wT := mT4 146 (by decide +kernel) rfl
theorem kf_X11_82 : Cond.fieldLink RX11 82 (TX11 26).1 (TX11 26).2.1 (TX11 26).2.2.1 ∈ wT := mT4 147 (by decide +kernel) rfl
theorem kf_X11_85 : Cond.fieldLink RX11 85 (TX11 27).1 (TX11 27).2.1 (TX11 27).2.2.1 ∈ wT := mT4 148 (by decide +kernel) rfl
theorem kf_X11_88 : Cond.fieldLink RX11 88 (TX11 28).1 (TX11 28).2.1 (TX11 28).2.2.1 ∈ wT := mT4 149 (by decide +kernel) rfl
theorem kf_X11_160 : Cond.fieldLink RX11 160 (TX11 29).1 (TX11 29).2.1 (TX11 29).2.2.1 ∈ wT := mT4 150 (by decide +kernel) rfl
theorem kf_X11_91 : Cond.fieldLink RX11 91 (TX11 30).1 (TX11 30).2.1 (TX11 30).2.2.1 ∈ wT := mT4 151 (by decide +kernel) rfl
theorem kf_X11_94 : Cond.fieldLink RX11 94 (TX11 31).1 (TX11 31).2.1 (TX11 31).2.2.1 ∈ wT := mT4 152 (by decide +kernel) rfl
theorem kf_X11_97 : Cond.fieldLink RX11 97 (TX11 32).1 (TX11 32).2.1 (TX11 32).2.2.1 ∈ wT := mT4 153 (by decide +kernel) rfl
theorem kf_X11_240 : Cond.fieldLink RX11 240 (TX11 33).1 (TX11 33).2.1 (TX11 33).2.2.1 ∈ wT := mT4 154 (by decide +kernel) rfl
theorem kf_X11_100 : Cond.fieldLink RX11 100 (TX11 34).1 (TX11 34).2.1 (TX11 34).2.2.1 ∈ wT := mT4 155 (by decide +kernel) rfl
theorem kf_X11_103 : Cond.fieldLink RX11 103 (TX11 35).1 (TX11 35).2.1 (TX11 35).2.2.1 ∈ wT := mT4 156 (by decide +kernel) rfl
theorem kf_X11_106 : Cond.fieldLink RX11 106 (TX11 36).1 (TX11 36).2.1 (TX11 36).2.2.1 ∈ wT := mT4 157 (by decide +kernel) rfl
theorem kf_X11_109 : Cond.fieldLink RX11 109 (TX11 37).1 (TX11 37).2.1 (TX11 37).2.2.1 ∈ wT := mT4 158 (by decide +kernel) rfl
theorem kf_X11_112 : Cond.fieldLink RX11 112 (TX11 38).1 (TX11 38).2.1 (TX11 38).2.2.1 ∈ wT := mT4 159 (by decide +kernel) rfl
theorem kf_X11_115 : Cond.fieldLink RX11 115 (TX11 39).1 (TX11 39).2.1 (TX11 39).2.2.1 ∈ wT := mT4 160 (by decide +kernel) rfl
theorem kf_X11_118 : Cond.fieldLink RX11 118 (TX11 40).1 (TX11 40).2.1 (TX11 40).2.2.1 ∈ wT := mT4 161 (by decide +kernel) rfl
theorem kf_X11_121 : Cond.fieldLink RX11 121 (TX11 41).1 (TX11 41).2.1 (TX11 41).2.2.1 ∈ wT := mT4 162 (by decide +kernel) rfl
theorem kf_X11_124 : Cond.fieldLink RX11 124 (TX11 42).1 (TX11 42).2.1 (TX11 42).2.2.1 ∈ wT := mT4 163 (by decide +kernel) rfl
theorem kf_X11_127 : Cond.fieldLink RX11 127 (TX11 43).1 (TX11 43).2.1 (TX11 43).2.2.1 ∈ wT := mT4 164 (by decide +kernel) rfl
theorem kf_X11_130 : Cond.fieldLink RX11 130 (TX11 44).1 (TX11 44).2.1 (TX11 44).2.2.1 ∈ wT := mT4 165 (by decide +kernel) rfl
theorem kf_X11_133 : Cond.fieldLink RX11 133 (TX11 45).1 (TX11 45).2.1 (TX11 45).2.2.1 ∈ wT := mT4 166 (by decide +kernel) rfl
theorem kf_X11_243 : Cond.fieldLink RX11 243 (TX11 46).1 (TX11 46).2.1 (TX11 46).2.2.1 ∈ wT := mT4 167 (by decide +kernel) rfl
theorem kf_X11_136 : Cond.fieldLink RX11 136 (TX11 47).1 (TX11 47).2.1 (TX11 47).2.2.1 ∈ wT := mT4 168 (by decide +kernel) rfl
theorem kf_X11_139 : Cond.fieldLink RX11 139 (TX11 48).1 (TX11 48).2.1 (TX11 48).2.2.1 ∈ wT := mT4 169 (by decide +kernel) rfl
theorem kf_X11_142 : Cond.fieldLink RX11 142 (TX11 49).1 (TX11 49).2.1 (TX11 49).2.2.1 ∈ wT := mT4 170 (by decide +kernel) rfl
theorem kl_L_17 : Cond.methodLink RL 17 yX11_root ∈ wT := mT5 32 (by decide +kernel) rfl
theorem km_X11_root : Cond.instanceMethod yX11_root ∈ wT := mT5 33 (by decide +kernel) rfl
theorem kb_X11_root : zYb yX11_root cX11_root 3 (some .int) 2 := ⟨mT5 35 (by decide +kernel) rfl, mT1 7 (by decide +kernel) rfl, by decide +kernel, by decide +kernel, by decide +kernel⟩
theorem kl_X11_149 : Cond.methodLink RX11 149 yX11_isIn ∈ wT := mT5 36 (by decide +kernel) rfl
theorem ks_X11_isIn : Cond.static yX11_isIn ∈ wT := mT5 37 (by decide +kernel) rfl
theorem kb_X11_isIn : zYb yX11_isIn cX11_isIn 2 (some .boolean) 2 := ⟨mT5 38 (by decide +kernel) rfl, mT1 7 (by decide +kernel) rfl, by decide +kernel, by decide +kernel, by decide +kernel⟩
theorem kl_X11_170 : Cond.methodLink RX11 170 yX11_refuse ∈ wT := mT5 39 (by decide +kernel) rfl
theorem km_X11_refuse : Cond.instanceMethod yX11_refuse ∈ wT := mT5 41 (by decide +kernel) rfl
theorem kb_X11_refuse : zYb yX11_refuse cX11_refuse 2 (some .int) 1 := ⟨mT5 42 (by decide +kernel) rfl, mT1 7 (by decide +kernel) rfl, by decide +kernel, by decide +kernel, by decide +kernel⟩
theorem kl_X11_174 : Cond.methodLink RX11 174 yX11_make ∈ wT := mT5 43 (by decide +kernel) rfl
theorem km_X11_make : Cond.instanceMethod yX11_make ∈ wT := mT5 45 (by decide +kernel) rfl
theorem kb_X11_make : zYb yX11_make cX11_make 5 (some .int) 3 := ⟨mT5 46 (by decide +kernel) rfl, mT1 7 (by decide +kernel) rfl, by decide +kernel, by decide +kernel, by decide +kernel⟩
theorem kl_L_22 : Cond.methodLink RL 22 yX11_leaf ∈ wT := mT5 47 (by decide +kernel) rfl
theorem km_X11_leaf : Cond.instanceMethod yX11_leaf ∈ wT := mT5 48 (by decide +kernel) rfl
theorem kb_X11_leaf : zYb yX11_leaf cX11_leaf 6 (some .int) 3 := ⟨mT5 50 (by decide +kernel) rfl, mT1 7 (by decide +kernel) rfl, by decide +kernel, by decide +kernel, by decide +kernel⟩
theorem kl_X11_184 : Cond.methodLink RX11 184 yX11_place ∈ wT := mT5 51 (by decide +kernel) rfl
theorem km_X11_place : Cond.instanceMethod yX11_place ∈ wT := mT5 53 (by decide +kernel) rfl
theorem kb_X11_place : zYb yX11_place cX11_place 3 (some .int) 2 := ⟨mT5 54 (by decide +kernel) rfl, mT1 7 (by decide +kernel) rfl, by decide +kernel, by decide +kernel, by decide +kernel⟩
theorem kl_X11_178 : Cond.methodLink RX11 178 yX11_isThere ∈ wT := mT5 55 (by decide +kernel) rfl
theorem km_X11_isThere : Cond.instanceMethod yX11_isThere ∈ wT := mT5 57 (by decide +kernel) rfl
theorem kb_X11_isThere : zYb yX11_isThere cX11_isThere 2 (some .boolean) 1 := ⟨mT5 58 (by decide +kernel) rfl, mT1 7 (by decide +kernel) rfl, by decide +kernel, by decide +kernel, by decide +kernel⟩
theorem kl_X11_181 : Cond.methodLink RX11 181 yX11_hasPlaces ∈ wT := mT5 59 (by decide +kernel) rfl
theorem km_X11_hasPlaces : Cond.instanceMethod yX11_hasPlaces ∈ wT := mT5 61 (by decide +kernel) rfl
theorem kb_X11_hasPlaces : zYb yX11_hasPlaces cX11_hasPlaces 2 (some .boolean) 1 := ⟨mT5 62 (by decide +kernel) rfl, mT1 7 (by decide +kernel) rfl, by decide +kernel, by decide +kernel, by decide +kernel⟩
theorem kl_X11_167 : Cond.methodLink RX11 167 yX11_isNear ∈ wT := mT5 63 (by decide +kernel) rfl
theorem km_X11_isNear : Cond.instanceMethod yX11_isNear ∈ wT := mT5 65 (by decide +kernel) rfl
theorem kb_X11_isNear : zYb yX11_isNear cX11_isNear 3 (some .boolean) 1 := ⟨mT5 66 (by decide +kernel) rfl, mT1 7 (by decide +kernel) rfl, by decide +kernel, by decide +kernel, by decide +kernel⟩
theorem kl_X11_153 : Cond.methodLink RX11 153 yX11_noLeads ∈ wT := mT5 67 (by decide +kernel) rfl
theorem km_X11_noLeads : Cond.instanceMethod yX11_noLeads ∈ wT := mT5 69 (by decide +kernel) rfl
theorem kb_X11_noLeads : zYb yX11_noLeads cX11_noLeads 2 none 0 := ⟨mT5 70 (by decide +kernel) rfl, mT1 7 (by decide +kernel) rfl, by decide +kernel, by decide +kernel, by decide +kernel⟩
theorem kl_X11_156 : Cond.methodLink RX11 156 yX11_lead ∈ wT := mT5 71 (by decide +kernel) rfl
theorem km_X11_lead : Cond.instanceMethod yX11_lead ∈ wT := mT5 73 (by decide +kernel) rfl
theorem kb_X11_lead : zYb yX11_lead cX11_lead 6 none 1 := ⟨mT5 74 (by decide +kernel) rfl, mT1 7 (by decide +kernel) rfl, by decide +kernel, by decide +kernel, by decide +kernel⟩
theorem kl_X11_188 : Cond.methodLink RX11 188 yX11_lay ∈ wT := mT5 75 (by decide +kernel) rfl
theorem km_X11_lay : Cond.instanceMethod yX11_lay ∈ wT := mT5 77 (by decide +kernel) rfl
theorem kb_X11_lay : zYb yX11_lay cX11_lay 4 none 3 := ⟨mT5 78 (by decide +kernel) rfl, mT1 7 (by decide +kernel) rfl, by decide +kernel, by decide +kernel, by decide +kernel⟩
theorem kl_L_26 : Cond.methodLink RL 26 yX11_box ∈ wT := mT5 79 (by decide +kernel) rfl
theorem km_X11_box : Cond.instanceMethod yX11_box ∈ wT := mT5 80 (by decide +kernel) rfl
theorem kb_X11_box : zYb yX11_box cX11_box 6 (some .int) 3 := ⟨mT5 82 (by decide +kernel) rfl, mT1 7 (by decide +kernel) rfl, by decide +kernel, by decide +kernel, by decide +kernel⟩
theorem kl_L_30 : Cond.methodLink RL 30 yX11_put ∈ wT := mT5 83 (by decide +kernel) rfl
theorem km_X11_put : Cond.instanceMethod yX11_put ∈ wT := mT5 84 (by decide +kernel) rfl
theorem kb_X11_put : zYb yX11_put cX11_put 5 (some .int) 3 := ⟨mT5 86 (by decide +kernel) rfl, mT1 7 (by decide +kernel) rfl, by decide +kernel, by decide +kernel, by decide +kernel⟩
theorem kl_L_34 : Cond.methodLink RL 34 yX11_clear ∈ wT := mT5 87 (by decide +kernel) rfl
theorem km_X11_clear : Cond.instanceMethod yX11_clear ∈ wT := mT5 88 (by decide +kernel) rfl
theorem kb_X11_clear : zYb yX11_clear cX11_clear 4 (some .int) 2 := ⟨mT5 90 (by decide +kernel) rfl, mT1 7 (by decide +kernel) rfl, by decide +kernel, by decide +kernel, by decide +kernel⟩
theorem kl_L_39 : Cond.methodLink RL 39 yX11_row ∈ wT := mT5 91 (by decide +kernel) rfl
theorem km_X11_row : Cond.instanceMethod yX11_row ∈ wT := mT5 92 (by decide +kernel) rfl
theorem kb_X11_row : zYb yX11_row cX11_row 7 (some .int) 4 := ⟨mT5 94 (by decide +kernel) rfl, mT1 7 (by decide +kernel) rfl, by decide +kernel, by decide +kernel, by decide +kernel⟩
theorem kl_L_46 : Cond.methodLink RL 46 yX11_set ∈ wT := mT5 95 (by decide +kernel) rfl
theorem km_X11_set : Cond.instanceMethod yX11_set ∈ wT := mT5 96 (by decide +kernel) rfl
theorem kb_X11_set : zYb yX11_set cX11_set 7 (some .int) 4 := ⟨mT5 98 (by decide +kernel) rfl, mT1 7 (by decide +kernel) rfl, by decide +kernel, by decide +kernel, by decide +kernel⟩
theorem kl_X11_192 : Cond.methodLink RX11 192 yX11_low ∈ wT := mT5 99 (by decide +kernel) rfl
theorem ks_X11_low : Cond.static yX11_low ∈ wT := mT5 100 (by decide +kernel) rfl
theorem kb_X11_low : zYb yX11_low cX11_low 3 (some .long) 2 := ⟨mT5 101 (by decide +kernel) rfl, mT1 7 (by decide +kernel) rfl, by decide +kernel, by decide +kernel, by decide +kernel⟩
theorem kl_L_51 : Cond.methodLink RL 51 yX11_copy ∈ wT := mT5 102 (by decide +kernel) rfl
theorem km_X11_copy : Cond.instanceMethod yX11_copy ∈ wT := mT5 103 (by decide +kernel) rfl
theorem kb_X11_copy : zYb yX11_copy cX11_copy 11 (some .int) 5 := ⟨mT5 105 (by decide +kernel) rfl, mT1 7 (by decide +kernel) rfl, by decide +kernel, by decide +kernel, by decide +kernel⟩
theorem kl_L_56 : Cond.methodLink RL 56 yX11_element ∈ wT := mT5 106 (by decide +kernel) rfl
theorem km_X11_element : Cond.instanceMethod yX11_element ∈ wT := mT5 107 (by decide +kernel) rfl
theorem kb_X11_element : zYb yX11_element cX11_element 5 (some .long) 3 := ⟨mT5 109 (by decide +kernel) rfl, mT1 7 (by decide +kernel) rfl, by decide +kernel, by decide +kernel, by decide +kernel⟩
theorem kl_L_60 : Cond.methodLink RL 60 yX11_holds ∈ wT := mT5 110 (by decide +kernel) rfl
theorem km_X11_holds : Cond.instanceMethod yX11_holds ∈ wT := mT5 111 (by decide +kernel) rfl
theorem kb_X11_holds : zYb yX11_holds cX11_holds 4 (some .int) 2 := ⟨mT5 113 (by decide +kernel) rfl, mT1 7 (by decide +kernel) rfl, by decide +kernel, by decide +kernel, by decide +kernel⟩
theorem kl_L_64 : Cond.methodLink RL 64 yX11_thing ∈ wT := mT5 114 (by decide +kernel) rfl
theorem km_X11_thing : Cond.instanceMethod yX11_thing ∈ wT := mT5 115 (by decide +kernel) rfl
theorem kb_X11_thing : zYb yX11_thing cX11_thing 3 (some .int) 2 := ⟨mT5 117 (by decide +kernel) rfl, mT1 7 (by decide +kernel) rfl, by decide +kernel, by decide +kernel, by decide +kernel⟩
theorem kl_L_68 : Cond.methodLink RL 68 yX11_gate ∈ wT := mT5 118 (by decide +kernel) rfl
theorem km_X11_gate : Cond.instanceMethod yX11_gate ∈ wT := mT5 119 (by decide +kernel) rfl
theorem kb_X11_gate : zYb yX11_gate cX11_gate 3 (some .int) 2 := ⟨mT5 121 (by decide +kernel) rfl, mT1 7 (by decide +kernel) rfl, by decide +kernel, by decide +kernel, by decide +kernel⟩
theorem kl_X11_196 : Cond.methodLink RX11 196 yX11_gateOf ∈ wT := mT5 122 (by decide +kernel) rfl
theorem km_X11_gateOf : Cond.instanceMethod yX11_gateOf ∈ wT := mT5 124 (by decide +kernel) rfl
theorem kb_X11_gateOf : zYb yX11_gateOf cX11_gateOf 4 (some .int) 2 := ⟨mT5 125 (by decide +kernel) rfl, mT1 7 (by decide +kernel) rfl, by decide +kernel, by decide +kernel, by decide +kernel⟩
theorem kl_L_72 : Cond.methodLink RL 72 yX11_send ∈ wT := mT5 126 (by decide +kernel) rfl
theorem km_X11_send : Cond.instanceMethod yX11_send ∈ wT := mT5 127 (by decide +kernel) rfl
theorem kb_X11_send : zYb yX11_send cX11_send 5 (some .int) 3 := ⟨mT5 129 (by decide +kernel) rfl, mT1 7 (by decide +kernel) rfl, by decide +kernel, by decide +kernel, by decide +kernel⟩
theorem kl_X11_206 : Cond.methodLink RX11 206 yX11_name ∈ wT := mT5 130 (by decide +kernel) rfl
theorem km_X11_name : Cond.instanceMethod yX11_name ∈ wT := mT5 132 (by decide +kernel) rfl
theorem kb_X11_name : zYb yX11_name cX11_name 7 (some .int) 5 := ⟨mT5 133 (by decide +kernel) rfl, mT1 7 (by decide +kernel) rfl, by decide +kernel, by decide +kernel, by decide +kernel⟩
theorem kl_X11_202 : Cond.methodLink RX11 202 yX11_letter ∈ wT := mT5 134 (by decide +kernel) rfl
theorem km_X11_letter : Cond.instanceMethod yX11_letter ∈ wT := mT5 136 (by decide +kernel) rfl
theorem kb_X11_letter : zYb yX11_letter cX11_letter 7 (some .int) 5 := ⟨mT5 137 (by decide +kernel) rfl, mT1 7 (by decide +kernel) rfl, by decide +kernel, by decide +kernel, by decide +kernel⟩
theorem kl_X11_209 : Cond.methodLink RX11 209 yX11_half ∈ wT := mT5 138 (by decide +kernel) rfl
theorem km_X11_half : Cond.instanceMethod yX11_half ∈ wT := mT5 140 (by decide +kernel) rfl
theorem kb_X11_half : zYb yX11_half cX11_half 5 (some .int) 3 := ⟨mT5 141 (by decide +kernel) rfl, mT1 7 (by decide +kernel) rfl, by decide +kernel, by decide +kernel, by decide +kernel⟩
theorem kl_L_77 : Cond.methodLink RL 77 yX11_deliver ∈ wT := mT5 142 (by decide +kernel) rfl
theorem km_X11_deliver : Cond.instanceMethod yX11_deliver ∈ wT := mT5 143 (by decide +kernel) rfl
theorem kb_X11_deliver : zYb yX11_deliver cX11_deliver 5 (some .int) 1 := ⟨mT5 145 (by decide +kernel) rfl, mT1 7 (by decide +kernel) rfl, by decide +kernel, by decide +kernel, by decide +kernel⟩
theorem kl_X11_218 : Cond.methodLink RX11 218 yX11_sends ∈ wT := mT5 146 (by decide +kernel) rfl
theorem km_X11_sends : Cond.instanceMethod yX11_sends ∈ wT := mT5 148 (by decide +kernel) rfl
theorem kb_X11_sends : zYb yX11_sends cX11_sends 2 (some .int) 1 := ⟨mT5 149 (by decide +kernel) rfl, mT1 7 (by decide +kernel) rfl, by decide +kernel, by decide +kernel, by decide +kernel⟩
theorem kl_X11_212 : Cond.methodLink RX11 212 yX11_gatesToMeet ∈ wT := mT5 150 (by decide +kernel) rfl
theorem km_X11_gatesToMeet : Cond.instanceMethod yX11_gatesToMeet ∈ wT := mT5 152 (by decide +kernel) rfl
theorem kb_X11_gatesToMeet : zYb yX11_gatesToMeet cX11_gatesToMeet 5 (some .int) 2 := ⟨mT5 153 (by decide +kernel) rfl, mT1 7 (by decide +kernel) rfl, by decide +kernel, by decide +kernel, by decide +kernel⟩
theorem kl_X11_221 : Cond.methodLink RX11 221 yX11_named ∈ wT := mT5 154 (by decide +kernel) rfl
theorem km_X11_named : Cond.instanceMethod yX11_named ∈ wT := mT5 156 (by decide +kernel) rfl
theorem kb_X11_named : zYb yX11_named cX11_named 5 none 3 := ⟨mT5 157 (by decide +kernel) rfl, mT1 7 (by decide +kernel) rfl, by decide +kernel, by decide +kernel, by decide +kernel⟩
theorem kl_X11_228 : Cond.methodLink RX11 228 yX11_takes ∈ wT := mT5 158 (by decide +kernel) rfl
theorem km_X11_takes : Cond.instanceMethod yX11_takes ∈ wT := mT5 160 (by decide +kernel) rfl
theorem kb_X11_takes : zYb yX11_takes cX11_takes 3 none 2 := ⟨mT5 161 (by decide +kernel) rfl, mT1 7 (by decide +kernel) rfl, by decide +kernel, by decide +kernel, by decide +kernel⟩
theorem kl_X11_224 : Cond.methodLink RX11 224 yX11_given ∈ wT := mT5 162 (by decide +kernel) rfl
theorem km_X11_given : Cond.instanceMethod yX11_given ∈ wT := mT5 164 (by decide +kernel) rfl
theorem kb_X11_given : zYb yX11_given cX11_given 7 none 2 := ⟨mT5 165 (by decide +kernel) rfl, mT1 7 (by decide +kernel) rfl, by decide +kernel, by decide +kernel, by decide +kernel⟩
theorem kl_X11_231 : Cond.methodLink RX11 231 yX11_stepped ∈ wT := mT5 166 (by decide +kernel) rfl
theorem km_X11_stepped : Cond.instanceMethod yX11_stepped ∈ wT := mT5 168 (by decide +kernel) rfl
theorem kb_X11_stepped : zYb yX11_stepped cX11_stepped 8 none 1 := ⟨mT5 169 (by decide +kernel) rfl, mT1 7 (by decide +kernel) rfl, by decide +kernel, by decide +kernel, by decide +kernel⟩
theorem kl_X11_249 : Cond.methodLink RX11 249 yX11_note ∈ wT := mT5 170 (by decide +kernel) rfl
theorem km_X11_note : Cond.instanceMethod yX11_note ∈ wT := mT5 172 (by decide +kernel) rfl
theorem kb_X11_note : zYb yX11_note cX11_note 5 none 2 := ⟨mT5 173 (by decide +kernel) rfl, mT1 7 (by decide +kernel) rfl, by decide +kernel, by decide +kernel, by decide +kernel⟩
theorem kl_X11_246 : Cond.methodLink RX11 246 yX11_isRooted ∈ wT := mT5 174 (by decide +kernel) rfl
theorem km_X11_isRooted : Cond.instanceMethod yX11_isRooted ∈ wT := mT5 176 (by decide +kernel) rfl
theorem kb_X11_isRooted : zYb yX11_isRooted cX11_isRooted 2 (some .boolean) 1 := ⟨mT5 177 (by decide +kernel) rfl, mT1 7 (by decide +kernel) rfl, by decide +kernel, by decide +kernel, by decide +kernel⟩
theorem kl_X11_163 : Cond.methodLink RX11 163 yX11_isWaited ∈ wT := mT5 178 (by decide +kernel) rfl
theorem km_X11_isWaited : Cond.instanceMethod yX11_isWaited ∈ wT := mT5 180 (by decide +kernel) rfl
theorem kb_X11_isWaited : zYb yX11_isWaited cX11_isWaited 4 (some .boolean) 1 := ⟨mT5 181 (by decide +kernel) rfl, mT1 7 (by decide +kernel) rfl, by decide +kernel, by decide +kernel, by decide +kernel⟩
theorem kl_X11_237 : Cond.methodLink RX11 237 yX11_holdsOut ∈ wT := mT5 182 (by decide +kernel) rfl
theorem km_X11_holdsOut : Cond.instanceMethod yX11_holdsOut ∈ wT := mT5 184 (by decide +kernel) rfl
theorem kb_X11_holdsOut : zYb yX11_holdsOut cX11_holdsOut 2 (some .boolean) 1 := ⟨mT5 185 (by decide +kernel) rfl, mT1 7 (by decide +kernel) rfl, by decide +kernel, by decide +kernel, by decide +kernel⟩
theorem kl_X11_234 : Cond.methodLink RX11 234 yX11_backs ∈ wT := mT5 186 (by decide +kernel) rfl
theorem km_X11_backs : Cond.instanceMethod yX11_backs ∈ wT := mT5 188 (by decide +kernel) rfl
theorem kb_X11_backs : zYb yX11_backs cX11_backs 5 none 1 := ⟨mT5 189 (by decide +kernel) rfl, mT1 7 (by decide +kernel) rfl, by decide +kernel, by decide +kernel, by decide +kernel⟩
theorem kl_X11_252 : Cond.methodLink RX11 252 yX11_isAlive ∈ wT := mT5 190 (by decide +kernel) rfl
theorem km_X11_isAlive : Cond.instanceMethod yX11_isAlive ∈ wT := mT5 192 (by decide +kernel) rfl
theorem kb_X11_isAlive : zYb yX11_isAlive cX11_isAlive 5 (some .boolean) 2 := ⟨mT5 193 (by decide +kernel) rfl, mT1 7 (by decide +kernel) rfl, by decide +kernel, by decide +kernel, by decide +kernel⟩
theorem kl_X11_258 : Cond.methodLink RX11 258 yX11_becomesAlive ∈ wT := mT5 194 (by decide +kernel) rfl
theorem km_X11_becomesAlive : Cond.instanceMethod yX11_becomesAlive ∈ wT := mT5 196 (by decide +kernel) rfl
theorem kb_X11_becomesAlive : zYb yX11_becomesAlive cX11_becomesAlive 6 (some .boolean) 2 := ⟨mT5 197 (by decide +kernel) rfl, mT1 7 (by decide +kernel) rfl, by decide +kernel, by decide +kernel, by decide +kernel⟩
theorem kl_X11_255 : Cond.methodLink RX11 255 yX11_isHeld ∈ wT := mT5 198 (by decide +kernel) rfl
theorem km_X11_isHeld : Cond.instanceMethod yX11_isHeld ∈ wT := mT5 200 (by decide +kernel) rfl
theorem kb_X11_isHeld : zYb yX11_isHeld cX11_isHeld 5 (some .boolean) 2 := ⟨mT5 201 (by decide +kernel) rfl, mT1 7 (by decide +kernel) rfl, by decide +kernel, by decide +kernel, by decide +kernel⟩
theorem kl_L_81 : Cond.methodLink RL 81 yX11_letter_ ∈ wT := mT5 202 (by decide +kernel) rfl
theorem km_X11_letter_ : Cond.instanceMethod yX11_letter_ ∈ wT := mT5 203 (by decide +kernel) rfl
theorem kb_X11_letter_ : zYb yX11_letter_ cX11_letter_ 3 (some .int) 2 := ⟨mT5 205 (by decide +kernel) rfl, mT1 7 (by decide +kernel) rfl, by decide +kernel, by decide +kernel, by decide +kernel⟩
theorem kl_L_85 : Cond.methodLink RL 85 yX11_clean ∈ wT := mT5 206 (by decide +kernel) rfl
theorem km_X11_clean : Cond.instanceMethod yX11_clean ∈ wT := mT5 207 (by decide +kernel) rfl
theorem kb_X11_clean : zYb yX11_clean cX11_clean 4 (some .int) 1 := ⟨mT5 209 (by decide +kernel) rfl, mT1 7 (by decide +kernel) rfl, by decide +kernel, by decide +kernel, by decide +kernel⟩
theorem kl_L_89 : Cond.methodLink RL 89 yX11_freed ∈ wT := mT5 210 (by decide +kernel) rfl
theorem km_X11_freed : Cond.instanceMethod yX11_freed ∈ wT := mT5 211 (by decide +kernel) rfl
theorem kb_X11_freed : zYb yX11_freed cX11_freed 2 (some .int) 1 := ⟨mT5 213 (by decide +kernel) rfl, mT1 7 (by decide +kernel) rfl, by decide +kernel, by decide +kernel, by decide +kernel⟩
theorem kl_L_93 : Cond.methodLink RL 93 yX11_doubt ∈ wT := mT5 214 (by decide +kernel) rfl
theorem km_X11_doubt : Cond.instanceMethod yX11_doubt ∈ wT := mT5 215 (by decide +kernel) rfl
theorem kb_X11_doubt : zYb yX11_doubt cX11_doubt 3 (some .int) 1 := ⟨mT5 217 (by decide +kernel) rfl, mT1 7 (by decide +kernel) rfl, by decide +kernel, by decide +kernel, by decide +kernel⟩
theorem kl_L_97 : Cond.methodLink RL 97 yX11_walk ∈ wT := mT5 218 (by decide +kernel) rfl
theorem km_X11_walk : Cond.instanceMethod yX11_walk ∈ wT := mT5 219 (by decide +kernel) rfl
theorem kb_X11_walk : zYb yX11_walk cX11_walk 6 (some .int) 2 := ⟨mT5 221 (by decide +kernel) rfl, mT1 7 (by decide +kernel) rfl, by decide +kernel, by decide +kernel, by decide +kernel⟩
theorem kl_L_102 : Cond.methodLink RL 102 yX11_meant ∈ wT := mT5 222 (by decide +kernel) rfl
theorem km_X11_meant : Cond.instanceMethod yX11_meant ∈ wT := mT5 223 (by decide +kernel) rfl
theorem kb_X11_meant : zYb yX11_meant cX11_meant 2 (some .boolean) 1 := ⟨mT5 225 (by decide +kernel) rfl, mT1 7 (by decide +kernel) rfl, by decide +kernel, by decide +kernel, by decide +kernel⟩
theorem kl_X11_264 : Cond.methodLink RX11 264 yX11_measure ∈ wT := mT5 226 (by decide +kernel) rfl
theorem km_X11_measure : Cond.instanceMethod yX11_measure ∈ wT := mT5 228 (by decide +kernel) rfl
theorem kb_X11_measure : zYb yX11_measure cX11_measure 5 none 1 := ⟨mT5 229 (by decide +kernel) rfl, mT1 7 (by decide +kernel) rfl, by decide +kernel, by decide +kernel, by decide +kernel⟩
theorem kl_X11_261 : Cond.methodLink RX11 261 yX11_goes ∈ wT := mT5 230 (by decide +kernel) rfl
theorem km_X11_goes : Cond.instanceMethod yX11_goes ∈ wT := mT5 232 (by decide +kernel) rfl
theorem kb_X11_goes : zYb yX11_goes cX11_goes 5 (some .boolean) 2 := ⟨mT5 233 (by decide +kernel) rfl, mT1 7 (by decide +kernel) rfl, by decide +kernel, by decide +kernel, by decide +kernel⟩
theorem kl_X11_267 : Cond.methodLink RX11 267 yX11_rootFor ∈ wT := mT5 234 (by decide +kernel) rfl
theorem km_X11_rootFor : Cond.instanceMethod yX11_rootFor ∈ wT := mT5 236 (by decide +kernel) rfl
theorem kb_X11_rootFor : zYb yX11_rootFor cX11_rootFor 3 (some .int) 0 := ⟨mT5 237 (by decide +kernel) rfl, mT1 7 (by decide +kernel) rfl, by decide +kernel, by decide +kernel, by decide +kernel⟩
theorem kl_L_106 : Cond.methodLink RL 106 yX11_why ∈ wT := mT5 238 (by decide +kernel) rfl
theorem km_X11_why : Cond.instanceMethod yX11_why ∈ wT := mT5 239 (by decide +kernel) rfl
theorem kb_X11_why : zYb yX11_why cX11_why 6 (some .int) 2 := ⟨mT6 1 (by decide +kernel) rfl, mT1 7 (by decide +kernel) rfl, by decide +kernel, by decide +kernel, by decide +kernel⟩
theorem kl_L_110 : Cond.methodLink RL 110 yX11_dead ∈ wT := mT6 2 (by decide +kernel) rfl
theorem km_X11_dead : Cond.instanceMethod yX11_dead ∈ wT := mT6 3 (by decide +kernel) rfl
theorem kb_X11_dead : zYb yX11_dead cX11_dead 4 (some .int) 1 := ⟨mT6 5 (by decide +kernel) rfl, mT1 7 (by decide +kernel) rfl, by decide +kernel, by decide +kernel, by decide +kernel⟩
theorem kl_X11_271 : Cond.methodLink RX11 271 yX11_marksMeant ∈ wT := mT6 6 (by decide +kernel) rfl
theorem km_X11_marksMeant : Cond.instanceMethod yX11_marksMeant ∈ wT := mT6 8 (by decide +kernel) rfl
theorem kb_X11_marksMeant : zYb yX11_marksMeant cX11_marksMeant 4 none 0 := ⟨mT6 9 (by decide +kernel) rfl, mT1 7 (by decide +kernel) rfl, by decide +kernel, by decide +kernel, by decide +kernel⟩
theorem kl_L_114 : Cond.methodLink RL 114 yX11_audit ∈ wT := mT6 10 (by decide +kernel) rfl
theorem km_X11_audit : Cond.instanceMethod yX11_audit ∈ wT := mT6 11 (by decide +kernel) rfl
theorem kb_X11_audit : zYb yX11_audit cX11_audit 5 (some .int) 2 := ⟨mT6 13 (by decide +kernel) rfl, mT1 7 (by decide +kernel) rfl, by decide +kernel, by decide +kernel, by decide +kernel⟩
theorem kl_L_118 : Cond.methodLink RL 118 yX11_status ∈ wT := mT6 14 (by decide +kernel) rfl
theorem km_X11_status : Cond.instanceMethod yX11_status ∈ wT := mT6 15 (by decide +kernel) rfl
theorem kb_X11_status : zYb yX11_status cX11_status 4 (some .int) 1 := ⟨mT6 17 (by decide +kernel) rfl, mT1 7 (by decide +kernel) rfl, by decide +kernel, by decide +kernel, by decide +kernel⟩
theorem kk_L_40 : (Jvm.Cond.constantLong "FarHoldLaw" (40 : Nat) (4294967295 : Int64)) ∈ wT := mT6 18 (by decide +kernel) rfl
theorem kv_X1_has : zYv yX1_has := ⟨km_X1_has, mT4 65 (by decide +kernel) rfl⟩
theorem kv_X1_trace : zYv yX1_trace := ⟨km_X1_trace, mT4 22 (by decide +kernel) rfl⟩
theorem kv_X1_markNext : zYv yX1_markNext := ⟨km_X1_markNext, mS 28 (by decide +kernel) rfl⟩
theorem kv_X1_markNextThing : zYv yX1_markNextThing := ⟨km_X1_markNextThing, mS 29 (by decide +kernel) rfl⟩
theorem kv_X1_addNextByNumbers : zYv yX1_addNextByNumbers := ⟨km_X1_addNextByNumbers, mS 30 (by decide +kernel) rfl⟩
theorem kv_X1_addBehind : zYv yX1_addBehind := ⟨km_X1_addBehind, mS 26 (by decide +kernel) rfl⟩
theorem kv_X1_depthOf : zYv yX1_depthOf := ⟨km_X1_depthOf, mS 27 (by decide +kernel) rfl⟩
theorem kv_X1_beforeOf : zYv yX1_beforeOf := ⟨km_X1_beforeOf, mS 31 (by decide +kernel) rfl⟩
theorem kv_X1_onTheWay : zYv yX1_onTheWay := ⟨km_X1_onTheWay, mT4 73 (by decide +kernel) rfl⟩
theorem kv_X2_size : zYv yX2_size := ⟨km_X2_size, mT4 50 (by decide +kernel) rfl⟩
theorem kv_X2_hasRoom : zYv yX2_hasRoom := ⟨km_X2_hasRoom, mT2 191 (by decide +kernel) rfl⟩
theorem kv_X2_find : zYv yX2_find := ⟨km_X2_find, mT3 52 (by decide +kernel) rfl⟩
theorem kv_X2_file : zYv yX2_file := ⟨km_X2_file, mS 6 (by decide +kernel) rfl⟩
theorem kv_X2_fileName : zYv yX2_fileName := ⟨km_X2_fileName, mT2 195 (by decide +kernel) rfl⟩
theorem kv_X2_fileOfWeight : zYv yX2_fileOfWeight := ⟨km_X2_fileOfWeight, mT3 44 (by decide +kernel) rfl⟩
theorem kv_X2_fileOfWalk : zYv yX2_fileOfWalk := ⟨km_X2_fileOfWalk, mT3 134 (by decide +kernel) rfl⟩
theorem kv_X2_sizeUnderWay : zYv yX2_sizeUnderWay := ⟨km_X2_sizeUnderWay, mT4 107 (by decide +kernel) rfl⟩
theorem kv_X2_weightUnderWay : zYv yX2_weightUnderWay := ⟨km_X2_weightUnderWay, mT4 93 (by decide +kernel) rfl⟩
theorem kv_X3_restart : zYv yX3_restart := ⟨km_X3_restart, mT2 26 (by decide +kernel) rfl⟩
theorem kv_X3_size : zYv yX3_size := ⟨km_X3_size, mT3 109 (by decide +kernel) rfl⟩
theorem kv_X3_at : zYv yX3_at := ⟨km_X3_at, mT2 30 (by decide +kernel) rfl⟩
theorem kv_X3_has : zYv yX3_has := ⟨km_X3_has, mT2 64 (by decide +kernel) rfl⟩
theorem kv_X3_add : zYv yX3_add := ⟨km_X3_add, mT2 42 (by decide +kernel) rfl⟩
theorem kv_X3_addHeldBy : zYv yX3_addHeldBy := ⟨km_X3_addHeldBy, mT2 50 (by decide +kernel) rfl⟩
theorem kv_X3_spread : zYv yX3_spread := ⟨km_X3_spread, mT2 46 (by decide +kernel) rfl⟩
theorem kv_X4_hasElement : zYv yX4_hasElement := ⟨km_X4_hasElement, mT2 124 (by decide +kernel) rfl⟩
theorem kv_X4_read : zYv yX4_read := ⟨km_X4_read, mT2 157 (by decide +kernel) rfl⟩
theorem kv_X4_write : zYv yX4_write := ⟨km_X4_write, mT2 128 (by decide +kernel) rfl⟩
theorem kv_X4_cut : zYv yX4_cut := ⟨km_X4_cut, mS 4 (by decide +kernel) rfl⟩
theorem kv_X4_canTake : zYv yX4_canTake := ⟨km_X4_canTake, mT2 141 (by decide +kernel) rfl⟩
theorem kv_X4_take : zYv yX4_take := ⟨km_X4_take, mT2 145 (by decide +kernel) rfl⟩
theorem kv_X5_placesSize : zYv yX5_placesSize := ⟨km_X5_placesSize, mT2 54 (by decide +kernel) rfl⟩
theorem kv_X5_hasPlaces : zYv yX5_hasPlaces := ⟨km_X5_hasPlaces, mT2 14 (by decide +kernel) rfl⟩
theorem kv_X5_hasPlace : zYv yX5_hasPlace := ⟨km_X5_hasPlace, mT2 18 (by decide +kernel) rfl⟩
theorem kv_X5_thingAt : zYv yX5_thingAt := ⟨km_X5_thingAt, mT2 58 (by decide +kernel) rfl⟩
theorem kv_X5_rowAt : zYv yX5_rowAt := ⟨km_X5_rowAt, mT2 89 (by decide +kernel) rfl⟩
theorem kv_X5_holdsNothing : zYv yX5_holdsNothing := ⟨km_X5_holdsNothing, mT2 84 (by decide +kernel) rfl⟩
theorem kv_X5_holdThing : zYv yX5_holdThing := ⟨km_X5_holdThing, mT2 68 (by decide +kernel) rfl⟩
theorem kv_X5_holdRow : zYv yX5_holdRow := ⟨km_X5_holdRow, mT2 114 (by decide +kernel) rfl⟩
theorem kv_X5_isAnchor : zYv yX5_isAnchor := ⟨km_X5_isAnchor, mT3 162 (by decide +kernel) rfl⟩
theorem kv_X5_takeFromExit : zYv yX5_takeFromExit := ⟨km_X5_takeFromExit, mT3 64 (by decide +kernel) rfl⟩
theorem kv_X6_size : zYv yX6_size := ⟨km_X6_size, mT2 38 (by decide +kernel) rfl⟩
theorem kv_X6_sizeThere : zYv yX6_sizeThere := ⟨km_X6_sizeThere, mT4 102 (by decide +kernel) rfl⟩
theorem kv_X6_make : zYv yX6_make := ⟨km_X6_make, mT1 167 (by decide +kernel) rfl⟩
theorem kv_X6_ever : zYv yX6_ever := ⟨km_X6_ever, mT2 169 (by decide +kernel) rfl⟩
theorem kv_X6_find : zYv yX6_find := ⟨km_X6_find, mT2 10 (by decide +kernel) rfl⟩
theorem kv_X6_gateAt : zYv yX6_gateAt := ⟨km_X6_gateAt, mT2 178 (by decide +kernel) rfl⟩
theorem kv_X6_weightOfGates : zYv yX6_weightOfGates := ⟨km_X6_weightOfGates, mT4 89 (by decide +kernel) rfl⟩
theorem kv_X7_size : zYv yX7_size := ⟨km_X7_size, mT4 55 (by decide +kernel) rfl⟩
theorem kv_X7_at : zYv yX7_at := ⟨km_X7_at, mT3 84 (by decide +kernel) rfl⟩
theorem kv_X7_add : zYv yX7_add := ⟨km_X7_add, mT3 19 (by decide +kernel) rfl⟩
theorem kv_X7_firstFor : zYv yX7_firstFor := ⟨km_X7_firstFor, mT3 80 (by decide +kernel) rfl⟩
theorem kv_X7_remove : zYv yX7_remove := ⟨km_X7_remove, mT3 88 (by decide +kernel) rfl⟩
theorem kv_X9_hasPassed : zYv yX9_hasPassed := ⟨km_X9_hasPassed, mT3 101 (by decide +kernel) rfl⟩
theorem kv_X9_hasMet : zYv yX9_hasMet := ⟨km_X9_hasMet, mT3 114 (by decide +kernel) rfl⟩
theorem kv_X9_weightMetFor : zYv yX9_weightMetFor := ⟨km_X9_weightMetFor, mT3 166 (by decide +kernel) rfl⟩
theorem kv_X9_pass : zYv yX9_pass := ⟨km_X9_pass, mT3 122 (by decide +kernel) rfl⟩
theorem kv_X9_meet : zYv yX9_meet := ⟨km_X9_meet, mT3 130 (by decide +kernel) rfl⟩
theorem kv_X9_comeBack : zYv yX9_comeBack := ⟨km_X9_comeBack, mT3 142 (by decide +kernel) rfl⟩
theorem kv_X9_isChanged : zYv yX9_isChanged := ⟨km_X9_isChanged, mT3 150 (by decide +kernel) rfl⟩
theorem kv_X10_root : zYv yX10_root := ⟨km_X10_root, mT1 156 (by decide +kernel) rfl⟩
theorem kv_X10_leaf : zYv yX10_leaf := ⟨km_X10_leaf, mT2 6 (by decide +kernel) rfl⟩
theorem kv_X10_box : zYv yX10_box := ⟨km_X10_box, mT2 72 (by decide +kernel) rfl⟩
theorem kv_X10_put : zYv yX10_put := ⟨km_X10_put, mT2 76 (by decide +kernel) rfl⟩
theorem kv_X10_clear : zYv yX10_clear := ⟨km_X10_clear, mT2 80 (by decide +kernel) rfl⟩
theorem kv_X10_row : zYv yX10_row := ⟨km_X10_row, mT2 93 (by decide +kernel) rfl⟩
theorem kv_X10_set : zYv yX10_set := ⟨km_X10_set, mT2 118 (by decide +kernel) rfl⟩
theorem kv_X10_copy : zYv yX10_copy := ⟨km_X10_copy, mT2 137 (by decide +kernel) rfl⟩
theorem kv_X10_element : zYv yX10_element := ⟨km_X10_element, mT2 153 (by decide +kernel) rfl⟩
theorem kv_X10_holds : zYv yX10_holds := ⟨km_X10_holds, mT2 161 (by decide +kernel) rfl⟩
theorem kv_X10_thing : zYv yX10_thing := ⟨km_X10_thing, mT2 165 (by decide +kernel) rfl⟩
theorem kv_X10_gate : zYv yX10_gate := ⟨km_X10_gate, mT2 174 (by decide +kernel) rfl⟩
theorem kv_X10_send : zYv yX10_send := ⟨km_X10_send, mT2 183 (by decide +kernel) rfl⟩
theorem kv_X10_deliver : zYv yX10_deliver := ⟨km_X10_deliver, mT3 48 (by decide +kernel) rfl⟩
theorem kv_X10_letter : zYv yX10_letter := ⟨km_X10_letter, mT3 179 (by decide +kernel) rfl⟩
theorem kv_X10_clean : zYv yX10_clean := ⟨km_X10_clean, mT3 183 (by decide +kernel) rfl⟩
theorem kv_X10_freed : zYv yX10_freed := ⟨km_X10_freed, mT3 199 (by decide +kernel) rfl⟩
theorem kv_X10_doubt : zYv yX10_doubt := ⟨km_X10_doubt, mT3 203 (by decide +kernel) rfl⟩
theorem kv_X10_walk : zYv yX10_walk := ⟨km_X10_walk, mT4 14 (by decide +kernel) rfl⟩
theorem kv_X10_meant : zYv yX10_meant := ⟨km_X10_meant, mT4 18 (by decide +kernel) rfl⟩
theorem kv_X10_why : zYv yX10_why := ⟨km_X10_why, mT4 69 (by decide +kernel) rfl⟩
theorem kv_X10_dead : zYv yX10_dead := ⟨km_X10_dead, mT4 81 (by decide +kernel) rfl⟩
theorem kv_X10_audit : zYv yX10_audit := ⟨km_X10_audit, mT4 85 (by decide +kernel) rfl⟩
theorem kv_X10_status : zYv yX10_status := ⟨km_X10_status, mT4 98 (by decide +kernel) rfl⟩
theorem kv_X10_refuse : zYv yX10_refuse := ⟨km_X10_refuse, mS 0 (by decide +kernel) rfl⟩
theorem kv_X10_touch : zYv yX10_touch := ⟨km_X10_touch, mS 1 (by decide +kernel) rfl⟩
theorem kv_X10_countOf : zYv yX10_countOf := ⟨km_X10_countOf, mS 15 (by decide +kernel) rfl⟩
theorem kv_X10_sumOfCounts : zYv yX10_sumOfCounts := ⟨km_X10_sumOfCounts, mS 32 (by decide +kernel) rfl⟩
theorem kv_X10_isNear : zYv yX10_isNear := ⟨km_X10_isNear, mS 2 (by decide +kernel) rfl⟩
theorem kv_X10_addRoots : zYv yX10_addRoots := ⟨km_X10_addRoots, mS 3 (by decide +kernel) rfl⟩
theorem kv_X10_sendName : zYv yX10_sendName := ⟨km_X10_sendName, mS 5 (by decide +kernel) rfl⟩
theorem kv_X10_arrive : zYv yX10_arrive := ⟨km_X10_arrive, mS 7 (by decide +kernel) rfl⟩
theorem kv_X10_arriveName : zYv yX10_arriveName := ⟨km_X10_arriveName, mS 8 (by decide +kernel) rfl⟩
theorem kv_X10_gateWithMore : zYv yX10_gateWithMore := ⟨km_X10_gateWithMore, mS 9 (by decide +kernel) rfl⟩
theorem kv_X10_arriveMore : zYv yX10_arriveMore := ⟨km_X10_arriveMore, mS 10 (by decide +kernel) rfl⟩
theorem kv_X10_arriveGive : zYv yX10_arriveGive := ⟨km_X10_arriveGive, mS 11 (by decide +kernel) rfl⟩
theorem kv_X10_arriveHome : zYv yX10_arriveHome := ⟨km_X10_arriveHome, mS 12 (by decide +kernel) rfl⟩
theorem kv_X10_arriveStep : zYv yX10_arriveStep := ⟨km_X10_arriveStep, mS 13 (by decide +kernel) rfl⟩
theorem kv_X10_gatesToMeet : zYv yX10_gatesToMeet := ⟨km_X10_gatesToMeet, mS 14 (by decide +kernel) rfl⟩
theorem kv_X10_meetGates : zYv yX10_meetGates := ⟨km_X10_meetGates, mS 16 (by decide +kernel) rfl⟩
theorem kv_X10_arriveBack : zYv yX10_arriveBack := ⟨km_X10_arriveBack, mS 17 (by decide +kernel) rfl⟩
theorem kv_X10_endWalk : zYv yX10_endWalk := ⟨km_X10_endWalk, mS 18 (by decide +kernel) rfl⟩
theorem kv_X10_isStartAlive : zYv yX10_isStartAlive := ⟨km_X10_isStartAlive, mS 19 (by decide +kernel) rfl⟩
theorem kv_X10_addLiveFromOutside : zYv yX10_addLiveFromOutside := ⟨km_X10_addLiveFromOutside, mS 20 (by decide +kernel) rfl⟩
theorem kv_X10_revive : zYv yX10_revive := ⟨km_X10_revive, mS 22 (by decide +kernel) rfl⟩
theorem kv_X10_bringAlive : zYv yX10_bringAlive := ⟨km_X10_bringAlive, mS 21 (by decide +kernel) rfl⟩
theorem kv_X10_findKept : zYv yX10_findKept := ⟨km_X10_findKept, mS 23 (by decide +kernel) rfl⟩
theorem kv_X10_gatesToFree : zYv yX10_gatesToFree := ⟨km_X10_gatesToFree, mS 24 (by decide +kernel) rfl⟩
theorem kv_X10_free : zYv yX10_free := ⟨km_X10_free, mS 25 (by decide +kernel) rfl⟩
theorem kv_X11_refuse : zYv yX11_refuse := ⟨km_X11_refuse, mS 33 (by decide +kernel) rfl⟩
theorem kv_X11_isThere : zYv yX11_isThere := ⟨km_X11_isThere, mS 36 (by decide +kernel) rfl⟩
theorem kv_X11_hasPlaces : zYv yX11_hasPlaces := ⟨km_X11_hasPlaces, mS 37 (by decide +kernel) rfl⟩
theorem kv_X11_noLeads : zYv yX11_noLeads := ⟨km_X11_noLeads, mS 39 (by decide +kernel) rfl⟩
theorem kv_X11_lead : zYv yX11_lead := ⟨km_X11_lead, mS 40 (by decide +kernel) rfl⟩
theorem kv_X11_isNear : zYv yX11_isNear := ⟨km_X11_isNear, mS 38 (by decide +kernel) rfl⟩
theorem kv_X11_isWaited : zYv yX11_isWaited := ⟨km_X11_isWaited, mS 54 (by decide +kernel) rfl⟩
theorem kv_X11_isRooted : zYv yX11_isRooted := ⟨km_X11_isRooted, mS 53 (by decide +kernel) rfl⟩
theorem kv_X11_holdsOut : zYv yX11_holdsOut := ⟨km_X11_holdsOut, mS 55 (by decide +kernel) rfl⟩
theorem kv_X11_gateOf : zYv yX11_gateOf := ⟨km_X11_gateOf, mS 42 (by decide +kernel) rfl⟩
theorem kv_X11_make : zYv yX11_make := ⟨km_X11_make, mS 34 (by decide +kernel) rfl⟩
theorem kv_X11_lay : zYv yX11_lay := ⟨km_X11_lay, mS 41 (by decide +kernel) rfl⟩
theorem kv_X11_root : zYv yX11_root := ⟨km_X11_root, mT5 34 (by decide +kernel) rfl⟩
theorem kv_X11_place : zYv yX11_place := ⟨km_X11_place, mS 35 (by decide +kernel) rfl⟩
theorem kv_X11_leaf : zYv yX11_leaf := ⟨km_X11_leaf, mT5 49 (by decide +kernel) rfl⟩
theorem kv_X11_box : zYv yX11_box := ⟨km_X11_box, mT5 81 (by decide +kernel) rfl⟩
theorem kv_X11_put : zYv yX11_put := ⟨km_X11_put, mT5 85 (by decide +kernel) rfl⟩
theorem kv_X11_clear : zYv yX11_clear := ⟨km_X11_clear, mT5 89 (by decide +kernel) rfl⟩
theorem kv_X11_row : zYv yX11_row := ⟨km_X11_row, mT5 93 (by decide +kernel) rfl⟩
theorem kv_X11_set : zYv yX11_set := ⟨km_X11_set, mT5 97 (by decide +kernel) rfl⟩
theorem kv_X11_copy : zYv yX11_copy := ⟨km_X11_copy, mT5 104 (by decide +kernel) rfl⟩
theorem kv_X11_element : zYv yX11_element := ⟨km_X11_element, mT5 108 (by decide +kernel) rfl⟩
theorem kv_X11_holds : zYv yX11_holds := ⟨km_X11_holds, mT5 112 (by decide +kernel) rfl⟩
theorem kv_X11_thing : zYv yX11_thing := ⟨km_X11_thing, mT5 116 (by decide +kernel) rfl⟩
theorem kv_X11_gate : zYv yX11_gate := ⟨km_X11_gate, mT5 120 (by decide +kernel) rfl⟩
theorem kv_X11_letter : zYv yX11_letter := ⟨km_X11_letter, mS 44 (by decide +kernel) rfl⟩
theorem kv_X11_name : zYv yX11_name := ⟨km_X11_name, mS 43 (by decide +kernel) rfl⟩
theorem kv_X11_half : zYv yX11_half := ⟨km_X11_half, mS 45 (by decide +kernel) rfl⟩
theorem kv_X11_send : zYv yX11_send := ⟨km_X11_send, mT5 128 (by decide +kernel) rfl⟩
theorem kv_X11_takes : zYv yX11_takes := ⟨km_X11_takes, mS 49 (by decide +kernel) rfl⟩
theorem kv_X11_sends : zYv yX11_sends := ⟨km_X11_sends, mS 46 (by decide +kernel) rfl⟩
theorem kv_X11_deliver : zYv yX11_deliver := ⟨km_X11_deliver, mT5 144 (by decide +kernel) rfl⟩
theorem kv_X11_named : zYv yX11_named := ⟨km_X11_named, mS 48 (by decide +kernel) rfl⟩
theorem kv_X11_given : zYv yX11_given := ⟨km_X11_given, mS 50 (by decide +kernel) rfl⟩
theorem kv_X11_letter_ : zYv yX11_letter_ := ⟨km_X11_letter_, mT5 204 (by decide +kernel) rfl⟩
theorem kv_X11_clean : zYv yX11_clean := ⟨km_X11_clean, mT5 208 (by decide +kernel) rfl⟩
theorem kv_X11_freed : zYv yX11_freed := ⟨km_X11_freed, mT5 212 (by decide +kernel) rfl⟩
theorem kv_X11_doubt : zYv yX11_doubt := ⟨km_X11_doubt, mT5 216 (by decide +kernel) rfl⟩
theorem kv_X11_gatesToMeet : zYv yX11_gatesToMeet := ⟨km_X11_gatesToMeet, mS 47 (by decide +kernel) rfl⟩
theorem kv_X11_note : zYv yX11_note := ⟨km_X11_note, mS 52 (by decide +kernel) rfl⟩
theorem kv_X11_stepped : zYv yX11_stepped := ⟨km_X11_stepped, mS 51 (by decide +kernel) rfl⟩
theorem kv_X11_backs : zYv yX11_backs := ⟨km_X11_backs, mS 56 (by decide +kernel) rfl⟩
theorem kv_X11_isHeld : zYv yX11_isHeld := ⟨km_X11_isHeld, mS 59 (by decide +kernel) rfl⟩
theorem kv_X11_becomesAlive : zYv yX11_becomesAlive := ⟨km_X11_becomesAlive, mS 58 (by decide +kernel) rfl⟩
theorem kv_X11_isAlive : zYv yX11_isAlive := ⟨km_X11_isAlive, mS 57 (by decide +kernel) rfl⟩
theorem kv_X11_walk : zYv yX11_walk := ⟨km_X11_walk, mT5 220 (by decide +kernel) rfl⟩
theorem kv_X11_goes : zYv yX11_goes := ⟨km_X11_goes, mS 61 (by decide +kernel) rfl⟩
theorem kv_X11_measure : zYv yX11_measure := ⟨km_X11_measure, mS 60 (by decide +kernel) rfl⟩
theorem kv_X11_rootFor : zYv yX11_rootFor := ⟨km_X11_rootFor, mS 62 (by decide +kernel) rfl⟩
theorem kv_X11_meant : zYv yX11_meant := ⟨km_X11_meant, mT5 224 (by decide +kernel) rfl⟩
theorem kv_X11_why : zYv yX11_why := ⟨km_X11_why, mT6 0 (by decide +kernel) rfl⟩
theorem kv_X11_dead : zYv yX11_dead := ⟨km_X11_dead, mT6 4 (by decide +kernel) rfl⟩
theorem kv_X11_marksMeant : zYv yX11_marksMeant := ⟨km_X11_marksMeant, mS 63 (by decide +kernel) rfl⟩
theorem kv_X11_audit : zYv yX11_audit := ⟨km_X11_audit, mT6 12 (by decide +kernel) rfl⟩
theorem kv_X11_status : zYv yX11_status := ⟨km_X11_status, mT6 16 (by decide +kernel) rfl⟩
end
