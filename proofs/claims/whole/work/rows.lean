section
/-- a private method of a class that the tables say can be made, by its rows of tables_1 -/
def lw_okq (q : MethodName × Nat) : Prop := (q.1.cls ≠ "java/lang/invoke/MethodHandle" ∧ q.1.cls ≠ "java/lang/invoke/VarHandle") ∧ Cond.instantiable q.1.cls q.2 ∈ tables_1 ∧ Cond.privateMethod q.1 ∈ tables_1 ∧ Cond.instanceMethod q.1 ∈ tables_1
theorem lw_p0 : lw_okq (⟨"FarHold", "refuse", "(I)I"⟩, 13) := ⟨⟨by decide +kernel, by decide +kernel⟩, List.mem_of_getElem? (i := 16) (by decide +kernel), List.mem_of_getElem? (i := 162) (by decide +kernel), List.mem_of_getElem? (i := 163) (by decide +kernel)⟩
theorem lw_p1 : lw_okq (⟨"FarHold", "touch", "(I)V"⟩, 13) := ⟨⟨by decide +kernel, by decide +kernel⟩, List.mem_of_getElem? (i := 16) (by decide +kernel), List.mem_of_getElem? (i := 241) (by decide +kernel), List.mem_of_getElem? (i := 242) (by decide +kernel)⟩
theorem lw_p2 : lw_okq (⟨"FarHold", "isNear", "(LFarHold$Thing;)Z"⟩, 13) := ⟨⟨by decide +kernel, by decide +kernel⟩, List.mem_of_getElem? (i := 16) (by decide +kernel), List.mem_of_getElem? (i := 261) (by decide +kernel), List.mem_of_getElem? (i := 262) (by decide +kernel)⟩
theorem lw_p3 : lw_okq (⟨"FarHold", "addRoots", "(I)V"⟩, 13) := ⟨⟨by decide +kernel, by decide +kernel⟩, List.mem_of_getElem? (i := 16) (by decide +kernel), List.mem_of_getElem? (i := 273) (by decide +kernel), List.mem_of_getElem? (i := 274) (by decide +kernel)⟩
theorem lw_p4 : lw_okq (⟨"FarHold$Row", "cut", "(J)J"⟩, 2) := ⟨⟨by decide +kernel, by decide +kernel⟩, List.mem_of_getElem? (i := 336) (by decide +kernel), List.mem_of_getElem? (i := 372) (by decide +kernel), List.mem_of_getElem? (i := 373) (by decide +kernel)⟩
theorem lw_p5 : lw_okq (⟨"FarHold", "sendName", "(LFarHold$Thing;LFarHold$Thing;I)I"⟩, 13) := ⟨⟨by decide +kernel, by decide +kernel⟩, List.mem_of_getElem? (i := 16) (by decide +kernel), List.mem_of_getElem? (i := 426) (by decide +kernel), List.mem_of_getElem? (i := 427) (by decide +kernel)⟩
theorem lw_p6 : lw_okq (⟨"FarHold$Post", "file", "(LFarHold$Letter;)I"⟩, 2) := ⟨⟨by decide +kernel, by decide +kernel⟩, List.mem_of_getElem? (i := 39) (by decide +kernel), List.mem_of_getElem? (i := 494) (by decide +kernel), List.mem_of_getElem? (i := 495) (by decide +kernel)⟩
theorem lw_p7 : lw_okq (⟨"FarHold", "arrive", "(LFarHold$Letter;)Z"⟩, 13) := ⟨⟨by decide +kernel, by decide +kernel⟩, List.mem_of_getElem? (i := 16) (by decide +kernel), List.mem_of_getElem? (i := 535) (by decide +kernel), List.mem_of_getElem? (i := 536) (by decide +kernel)⟩
theorem lw_p8 : lw_okq (⟨"FarHold", "arriveName", "(LFarHold$Letter;)Z"⟩, 13) := ⟨⟨by decide +kernel, by decide +kernel⟩, List.mem_of_getElem? (i := 16) (by decide +kernel), List.mem_of_getElem? (i := 539) (by decide +kernel), List.mem_of_getElem? (i := 540) (by decide +kernel)⟩
theorem lw_p9 : lw_okq (⟨"FarHold", "gateWithMore", "(ILFarHold$Thing;I)LFarHold$Thing;"⟩, 13) := ⟨⟨by decide +kernel, by decide +kernel⟩, List.mem_of_getElem? (i := 16) (by decide +kernel), List.mem_of_getElem? (i := 547) (by decide +kernel), List.mem_of_getElem? (i := 548) (by decide +kernel)⟩
theorem lw_p10 : lw_okq (⟨"FarHold", "arriveMore", "(LFarHold$Letter;)Z"⟩, 13) := ⟨⟨by decide +kernel, by decide +kernel⟩, List.mem_of_getElem? (i := 16) (by decide +kernel), List.mem_of_getElem? (i := 551) (by decide +kernel), List.mem_of_getElem? (i := 552) (by decide +kernel)⟩
theorem lw_p11 : lw_okq (⟨"FarHold", "arriveGive", "(LFarHold$Letter;)Z"⟩, 13) := ⟨⟨by decide +kernel, by decide +kernel⟩, List.mem_of_getElem? (i := 16) (by decide +kernel), List.mem_of_getElem? (i := 555) (by decide +kernel), List.mem_of_getElem? (i := 556) (by decide +kernel)⟩
theorem lw_p12 : lw_okq (⟨"FarHold", "arriveHome", "(LFarHold$Letter;)Z"⟩, 13) := ⟨⟨by decide +kernel, by decide +kernel⟩, List.mem_of_getElem? (i := 16) (by decide +kernel), List.mem_of_getElem? (i := 572) (by decide +kernel), List.mem_of_getElem? (i := 573) (by decide +kernel)⟩
theorem lw_p13 : lw_okq (⟨"FarHold", "arriveStep", "(LFarHold$Letter;)Z"⟩, 13) := ⟨⟨by decide +kernel, by decide +kernel⟩, List.mem_of_getElem? (i := 16) (by decide +kernel), List.mem_of_getElem? (i := 576) (by decide +kernel), List.mem_of_getElem? (i := 577) (by decide +kernel)⟩
theorem lw_p14 : lw_okq (⟨"FarHold", "gatesToMeet", "(LFarHold$Walk;LFarHold$Thing;)I"⟩, 13) := ⟨⟨by decide +kernel, by decide +kernel⟩, List.mem_of_getElem? (i := 16) (by decide +kernel), List.mem_of_getElem? (i := 584) (by decide +kernel), List.mem_of_getElem? (i := 585) (by decide +kernel)⟩
theorem lw_p15 : lw_okq (⟨"FarHold", "countOf", "(I)I"⟩, 13) := ⟨⟨by decide +kernel, by decide +kernel⟩, List.mem_of_getElem? (i := 16) (by decide +kernel), List.mem_of_getElem? (i := 597) (by decide +kernel), List.mem_of_getElem? (i := 598) (by decide +kernel)⟩
def lw_privs_1 : List (MethodName × Nat) := [(⟨"FarHold", "refuse", "(I)I"⟩, 13), (⟨"FarHold", "touch", "(I)V"⟩, 13), (⟨"FarHold", "isNear", "(LFarHold$Thing;)Z"⟩, 13), (⟨"FarHold", "addRoots", "(I)V"⟩, 13), (⟨"FarHold$Row", "cut", "(J)J"⟩, 2), (⟨"FarHold", "sendName", "(LFarHold$Thing;LFarHold$Thing;I)I"⟩, 13), (⟨"FarHold$Post", "file", "(LFarHold$Letter;)I"⟩, 2), (⟨"FarHold", "arrive", "(LFarHold$Letter;)Z"⟩, 13), (⟨"FarHold", "arriveName", "(LFarHold$Letter;)Z"⟩, 13), (⟨"FarHold", "gateWithMore", "(ILFarHold$Thing;I)LFarHold$Thing;"⟩, 13), (⟨"FarHold", "arriveMore", "(LFarHold$Letter;)Z"⟩, 13), (⟨"FarHold", "arriveGive", "(LFarHold$Letter;)Z"⟩, 13), (⟨"FarHold", "arriveHome", "(LFarHold$Letter;)Z"⟩, 13), (⟨"FarHold", "arriveStep", "(LFarHold$Letter;)Z"⟩, 13), (⟨"FarHold", "gatesToMeet", "(LFarHold$Walk;LFarHold$Thing;)I"⟩, 13), (⟨"FarHold", "countOf", "(I)I"⟩, 13)]
theorem lw_r1 : ∀ q ∈ lw_privs_1, lw_okq q := List.forall_mem_cons.mpr ⟨lw_p0, List.forall_mem_cons.mpr ⟨lw_p1, List.forall_mem_cons.mpr ⟨lw_p2, List.forall_mem_cons.mpr ⟨lw_p3, List.forall_mem_cons.mpr ⟨lw_p4, List.forall_mem_cons.mpr ⟨lw_p5, List.forall_mem_cons.mpr ⟨lw_p6, List.forall_mem_cons.mpr ⟨lw_p7, List.forall_mem_cons.mpr ⟨lw_p8, List.forall_mem_cons.mpr ⟨lw_p9, List.forall_mem_cons.mpr ⟨lw_p10, List.forall_mem_cons.mpr ⟨lw_p11, List.forall_mem_cons.mpr ⟨lw_p12, List.forall_mem_cons.mpr ⟨lw_p13, List.forall_mem_cons.mpr ⟨lw_p14, List.forall_mem_cons.mpr ⟨lw_p15, fun _ h => absurd h List.not_mem_nil⟩⟩⟩⟩⟩⟩⟩⟩⟩⟩⟩⟩⟩⟩⟩⟩
theorem lw_p16 : lw_okq (⟨"FarHold", "meetGates", "(LFarHold$Walk;LFarHold$Thing;)V"⟩, 13) := ⟨⟨by decide +kernel, by decide +kernel⟩, List.mem_of_getElem? (i := 16) (by decide +kernel), List.mem_of_getElem? (i := 605) (by decide +kernel), List.mem_of_getElem? (i := 606) (by decide +kernel)⟩
theorem lw_p17 : lw_okq (⟨"FarHold", "arriveBack", "(LFarHold$Letter;)Z"⟩, 13) := ⟨⟨by decide +kernel, by decide +kernel⟩, List.mem_of_getElem? (i := 16) (by decide +kernel), List.mem_of_getElem? (i := 617) (by decide +kernel), List.mem_of_getElem? (i := 618) (by decide +kernel)⟩
theorem lw_p18 : lw_okq (⟨"FarHold", "endWalk", "(LFarHold$Walk;)V"⟩, 13) := ⟨⟨by decide +kernel, by decide +kernel⟩, List.mem_of_getElem? (i := 16) (by decide +kernel), List.mem_of_getElem? (i := 625) (by decide +kernel), List.mem_of_getElem? (i := 626) (by decide +kernel)⟩
theorem lw_p19 : lw_okq (⟨"FarHold", "isStartAlive", "(LFarHold$Walk;)Z"⟩, 13) := ⟨⟨by decide +kernel, by decide +kernel⟩, List.mem_of_getElem? (i := 16) (by decide +kernel), List.mem_of_getElem? (i := 633) (by decide +kernel), List.mem_of_getElem? (i := 634) (by decide +kernel)⟩
theorem lw_p20 : lw_okq (⟨"FarHold", "addLiveFromOutside", "(LFarHold$Walk;)V"⟩, 13) := ⟨⟨by decide +kernel, by decide +kernel⟩, List.mem_of_getElem? (i := 16) (by decide +kernel), List.mem_of_getElem? (i := 637) (by decide +kernel), List.mem_of_getElem? (i := 638) (by decide +kernel)⟩
theorem lw_p21 : lw_okq (⟨"FarHold", "bringAlive", "(LFarHold$Thing;)V"⟩, 13) := ⟨⟨by decide +kernel, by decide +kernel⟩, List.mem_of_getElem? (i := 16) (by decide +kernel), List.mem_of_getElem? (i := 649) (by decide +kernel), List.mem_of_getElem? (i := 650) (by decide +kernel)⟩
theorem lw_p22 : lw_okq (⟨"FarHold", "revive", "(LFarHold$Walk;LFarHold$Thing;)V"⟩, 13) := ⟨⟨by decide +kernel, by decide +kernel⟩, List.mem_of_getElem? (i := 16) (by decide +kernel), List.mem_of_getElem? (i := 654) (by decide +kernel), List.mem_of_getElem? (i := 655) (by decide +kernel)⟩
theorem lw_p23 : lw_okq (⟨"FarHold", "findKept", "(I)V"⟩, 13) := ⟨⟨by decide +kernel, by decide +kernel⟩, List.mem_of_getElem? (i := 16) (by decide +kernel), List.mem_of_getElem? (i := 666) (by decide +kernel), List.mem_of_getElem? (i := 667) (by decide +kernel)⟩
theorem lw_p24 : lw_okq (⟨"FarHold", "gatesToFree", "(I)I"⟩, 13) := ⟨⟨by decide +kernel, by decide +kernel⟩, List.mem_of_getElem? (i := 16) (by decide +kernel), List.mem_of_getElem? (i := 670) (by decide +kernel), List.mem_of_getElem? (i := 671) (by decide +kernel)⟩
theorem lw_p25 : lw_okq (⟨"FarHold", "free", "(LFarHold$Thing;)V"⟩, 13) := ⟨⟨by decide +kernel, by decide +kernel⟩, List.mem_of_getElem? (i := 16) (by decide +kernel), List.mem_of_getElem? (i := 674) (by decide +kernel), List.mem_of_getElem? (i := 675) (by decide +kernel)⟩
theorem lw_p26 : lw_okq (⟨"FarHold$Meaning", "addBehind", "(LFarHold$Thing;LFarHold$Thing;)V"⟩, 5) := ⟨⟨by decide +kernel, by decide +kernel⟩, List.mem_of_getElem? (i := 90) (by decide +kernel), List.mem_of_getElem? (i := 748) (by decide +kernel), List.mem_of_getElem? (i := 749) (by decide +kernel)⟩
theorem lw_p27 : lw_okq (⟨"FarHold$Meaning", "depthOf", "(LFarHold$Thing;)I"⟩, 5) := ⟨⟨by decide +kernel, by decide +kernel⟩, List.mem_of_getElem? (i := 90) (by decide +kernel), List.mem_of_getElem? (i := 753) (by decide +kernel), List.mem_of_getElem? (i := 754) (by decide +kernel)⟩
theorem lw_p28 : lw_okq (⟨"FarHold$Meaning", "markNext", "(LFarHold$Thing;LFarHold$Post;LFarHold$Waiting;)V"⟩, 5) := ⟨⟨by decide +kernel, by decide +kernel⟩, List.mem_of_getElem? (i := 90) (by decide +kernel), List.mem_of_getElem? (i := 759) (by decide +kernel), List.mem_of_getElem? (i := 760) (by decide +kernel)⟩
theorem lw_p29 : lw_okq (⟨"FarHold$Meaning", "markNextThing", "(LFarHold$Thing;)V"⟩, 5) := ⟨⟨by decide +kernel, by decide +kernel⟩, List.mem_of_getElem? (i := 90) (by decide +kernel), List.mem_of_getElem? (i := 765) (by decide +kernel), List.mem_of_getElem? (i := 766) (by decide +kernel)⟩
theorem lw_p30 : lw_okq (⟨"FarHold$Meaning", "addNextByNumbers", "(LFarHold$Thing;LFarHold$Things;)V"⟩, 5) := ⟨⟨by decide +kernel, by decide +kernel⟩, List.mem_of_getElem? (i := 90) (by decide +kernel), List.mem_of_getElem? (i := 779) (by decide +kernel), List.mem_of_getElem? (i := 780) (by decide +kernel)⟩
theorem lw_p31 : lw_okq (⟨"FarHold$Meaning", "beforeOf", "(LFarHold$Thing;)LFarHold$Thing;"⟩, 5) := ⟨⟨by decide +kernel, by decide +kernel⟩, List.mem_of_getElem? (i := 90) (by decide +kernel), List.mem_of_getElem? (i := 796) (by decide +kernel), List.mem_of_getElem? (i := 797) (by decide +kernel)⟩
def lw_privs_2 : List (MethodName × Nat) := [(⟨"FarHold", "meetGates", "(LFarHold$Walk;LFarHold$Thing;)V"⟩, 13), (⟨"FarHold", "arriveBack", "(LFarHold$Letter;)Z"⟩, 13), (⟨"FarHold", "endWalk", "(LFarHold$Walk;)V"⟩, 13), (⟨"FarHold", "isStartAlive", "(LFarHold$Walk;)Z"⟩, 13), (⟨"FarHold", "addLiveFromOutside", "(LFarHold$Walk;)V"⟩, 13), (⟨"FarHold", "bringAlive", "(LFarHold$Thing;)V"⟩, 13), (⟨"FarHold", "revive", "(LFarHold$Walk;LFarHold$Thing;)V"⟩, 13), (⟨"FarHold", "findKept", "(I)V"⟩, 13), (⟨"FarHold", "gatesToFree", "(I)I"⟩, 13), (⟨"FarHold", "free", "(LFarHold$Thing;)V"⟩, 13), (⟨"FarHold$Meaning", "addBehind", "(LFarHold$Thing;LFarHold$Thing;)V"⟩, 5), (⟨"FarHold$Meaning", "depthOf", "(LFarHold$Thing;)I"⟩, 5), (⟨"FarHold$Meaning", "markNext", "(LFarHold$Thing;LFarHold$Post;LFarHold$Waiting;)V"⟩, 5), (⟨"FarHold$Meaning", "markNextThing", "(LFarHold$Thing;)V"⟩, 5), (⟨"FarHold$Meaning", "addNextByNumbers", "(LFarHold$Thing;LFarHold$Things;)V"⟩, 5), (⟨"FarHold$Meaning", "beforeOf", "(LFarHold$Thing;)LFarHold$Thing;"⟩, 5)]
theorem lw_r2 : ∀ q ∈ lw_privs_2, lw_okq q := List.forall_mem_cons.mpr ⟨lw_p16, List.forall_mem_cons.mpr ⟨lw_p17, List.forall_mem_cons.mpr ⟨lw_p18, List.forall_mem_cons.mpr ⟨lw_p19, List.forall_mem_cons.mpr ⟨lw_p20, List.forall_mem_cons.mpr ⟨lw_p21, List.forall_mem_cons.mpr ⟨lw_p22, List.forall_mem_cons.mpr ⟨lw_p23, List.forall_mem_cons.mpr ⟨lw_p24, List.forall_mem_cons.mpr ⟨lw_p25, List.forall_mem_cons.mpr ⟨lw_p26, List.forall_mem_cons.mpr ⟨lw_p27, List.forall_mem_cons.mpr ⟨lw_p28, List.forall_mem_cons.mpr ⟨lw_p29, List.forall_mem_cons.mpr ⟨lw_p30, List.forall_mem_cons.mpr ⟨lw_p31, fun _ h => absurd h List.not_mem_nil⟩⟩⟩⟩⟩⟩⟩⟩⟩⟩⟩⟩⟩⟩⟩⟩
theorem lw_p32 : lw_okq (⟨"FarHold", "sumOfCounts", "()I"⟩, 13) := ⟨⟨by decide +kernel, by decide +kernel⟩, List.mem_of_getElem? (i := 16) (by decide +kernel), List.mem_of_getElem? (i := 831) (by decide +kernel), List.mem_of_getElem? (i := 832) (by decide +kernel)⟩
theorem lw_p33 : lw_okq (⟨"FarHoldModel", "refuse", "(I)I"⟩, 50) := ⟨⟨by decide +kernel, by decide +kernel⟩, List.mem_of_getElem? (i := 835) (by decide +kernel), List.mem_of_getElem? (i := 1000) (by decide +kernel), List.mem_of_getElem? (i := 1001) (by decide +kernel)⟩
theorem lw_p34 : lw_okq (⟨"FarHoldModel", "make", "(III)I"⟩, 50) := ⟨⟨by decide +kernel, by decide +kernel⟩, List.mem_of_getElem? (i := 835) (by decide +kernel), List.mem_of_getElem? (i := 1004) (by decide +kernel), List.mem_of_getElem? (i := 1005) (by decide +kernel)⟩
theorem lw_p35 : lw_okq (⟨"FarHoldModel", "place", "(II)I"⟩, 50) := ⟨⟨by decide +kernel, by decide +kernel⟩, List.mem_of_getElem? (i := 835) (by decide +kernel), List.mem_of_getElem? (i := 1012) (by decide +kernel), List.mem_of_getElem? (i := 1013) (by decide +kernel)⟩
theorem lw_p36 : lw_okq (⟨"FarHoldModel", "isThere", "(I)Z"⟩, 50) := ⟨⟨by decide +kernel, by decide +kernel⟩, List.mem_of_getElem? (i := 835) (by decide +kernel), List.mem_of_getElem? (i := 1016) (by decide +kernel), List.mem_of_getElem? (i := 1017) (by decide +kernel)⟩
theorem lw_p37 : lw_okq (⟨"FarHoldModel", "hasPlaces", "(I)Z"⟩, 50) := ⟨⟨by decide +kernel, by decide +kernel⟩, List.mem_of_getElem? (i := 835) (by decide +kernel), List.mem_of_getElem? (i := 1020) (by decide +kernel), List.mem_of_getElem? (i := 1021) (by decide +kernel)⟩
theorem lw_p38 : lw_okq (⟨"FarHoldModel", "isNear", "(I)Z"⟩, 50) := ⟨⟨by decide +kernel, by decide +kernel⟩, List.mem_of_getElem? (i := 835) (by decide +kernel), List.mem_of_getElem? (i := 1024) (by decide +kernel), List.mem_of_getElem? (i := 1025) (by decide +kernel)⟩
theorem lw_p39 : lw_okq (⟨"FarHoldModel", "noLeads", "()V"⟩, 50) := ⟨⟨by decide +kernel, by decide +kernel⟩, List.mem_of_getElem? (i := 835) (by decide +kernel), List.mem_of_getElem? (i := 1028) (by decide +kernel), List.mem_of_getElem? (i := 1029) (by decide +kernel)⟩
theorem lw_p40 : lw_okq (⟨"FarHoldModel", "lead", "(I)V"⟩, 50) := ⟨⟨by decide +kernel, by decide +kernel⟩, List.mem_of_getElem? (i := 835) (by decide +kernel), List.mem_of_getElem? (i := 1032) (by decide +kernel), List.mem_of_getElem? (i := 1033) (by decide +kernel)⟩
theorem lw_p41 : lw_okq (⟨"FarHoldModel", "lay", "(III)V"⟩, 50) := ⟨⟨by decide +kernel, by decide +kernel⟩, List.mem_of_getElem? (i := 835) (by decide +kernel), List.mem_of_getElem? (i := 1036) (by decide +kernel), List.mem_of_getElem? (i := 1037) (by decide +kernel)⟩
theorem lw_p42 : lw_okq (⟨"FarHoldModel", "gateOf", "(II)I"⟩, 50) := ⟨⟨by decide +kernel, by decide +kernel⟩, List.mem_of_getElem? (i := 835) (by decide +kernel), List.mem_of_getElem? (i := 1083) (by decide +kernel), List.mem_of_getElem? (i := 1084) (by decide +kernel)⟩
theorem lw_p43 : lw_okq (⟨"FarHoldModel", "name", "(IIIII)I"⟩, 50) := ⟨⟨by decide +kernel, by decide +kernel⟩, List.mem_of_getElem? (i := 835) (by decide +kernel), List.mem_of_getElem? (i := 1091) (by decide +kernel), List.mem_of_getElem? (i := 1092) (by decide +kernel)⟩
theorem lw_p44 : lw_okq (⟨"FarHoldModel", "letter", "(IIIII)I"⟩, 50) := ⟨⟨by decide +kernel, by decide +kernel⟩, List.mem_of_getElem? (i := 835) (by decide +kernel), List.mem_of_getElem? (i := 1095) (by decide +kernel), List.mem_of_getElem? (i := 1096) (by decide +kernel)⟩
theorem lw_p45 : lw_okq (⟨"FarHoldModel", "half", "(III)I"⟩, 50) := ⟨⟨by decide +kernel, by decide +kernel⟩, List.mem_of_getElem? (i := 835) (by decide +kernel), List.mem_of_getElem? (i := 1099) (by decide +kernel), List.mem_of_getElem? (i := 1100) (by decide +kernel)⟩
theorem lw_p46 : lw_okq (⟨"FarHoldModel", "sends", "(I)I"⟩, 50) := ⟨⟨by decide +kernel, by decide +kernel⟩, List.mem_of_getElem? (i := 835) (by decide +kernel), List.mem_of_getElem? (i := 1107) (by decide +kernel), List.mem_of_getElem? (i := 1108) (by decide +kernel)⟩
theorem lw_p47 : lw_okq (⟨"FarHoldModel", "gatesToMeet", "(II)I"⟩, 50) := ⟨⟨by decide +kernel, by decide +kernel⟩, List.mem_of_getElem? (i := 835) (by decide +kernel), List.mem_of_getElem? (i := 1111) (by decide +kernel), List.mem_of_getElem? (i := 1112) (by decide +kernel)⟩
def lw_privs_3 : List (MethodName × Nat) := [(⟨"FarHold", "sumOfCounts", "()I"⟩, 13), (⟨"FarHoldModel", "refuse", "(I)I"⟩, 50), (⟨"FarHoldModel", "make", "(III)I"⟩, 50), (⟨"FarHoldModel", "place", "(II)I"⟩, 50), (⟨"FarHoldModel", "isThere", "(I)Z"⟩, 50), (⟨"FarHoldModel", "hasPlaces", "(I)Z"⟩, 50), (⟨"FarHoldModel", "isNear", "(I)Z"⟩, 50), (⟨"FarHoldModel", "noLeads", "()V"⟩, 50), (⟨"FarHoldModel", "lead", "(I)V"⟩, 50), (⟨"FarHoldModel", "lay", "(III)V"⟩, 50), (⟨"FarHoldModel", "gateOf", "(II)I"⟩, 50), (⟨"FarHoldModel", "name", "(IIIII)I"⟩, 50), (⟨"FarHoldModel", "letter", "(IIIII)I"⟩, 50), (⟨"FarHoldModel", "half", "(III)I"⟩, 50), (⟨"FarHoldModel", "sends", "(I)I"⟩, 50), (⟨"FarHoldModel", "gatesToMeet", "(II)I"⟩, 50)]
theorem lw_r3 : ∀ q ∈ lw_privs_3, lw_okq q := List.forall_mem_cons.mpr ⟨lw_p32, List.forall_mem_cons.mpr ⟨lw_p33, List.forall_mem_cons.mpr ⟨lw_p34, List.forall_mem_cons.mpr ⟨lw_p35, List.forall_mem_cons.mpr ⟨lw_p36, List.forall_mem_cons.mpr ⟨lw_p37, List.forall_mem_cons.mpr ⟨lw_p38, List.forall_mem_cons.mpr ⟨lw_p39, List.forall_mem_cons.mpr ⟨lw_p40, List.forall_mem_cons.mpr ⟨lw_p41, List.forall_mem_cons.mpr ⟨lw_p42, List.forall_mem_cons.mpr ⟨lw_p43, List.forall_mem_cons.mpr ⟨lw_p44, List.forall_mem_cons.mpr ⟨lw_p45, List.forall_mem_cons.mpr ⟨lw_p46, List.forall_mem_cons.mpr ⟨lw_p47, fun _ h => absurd h List.not_mem_nil⟩⟩⟩⟩⟩⟩⟩⟩⟩⟩⟩⟩⟩⟩⟩⟩
theorem lw_p48 : lw_okq (⟨"FarHoldModel", "named", "(III)V"⟩, 50) := ⟨⟨by decide +kernel, by decide +kernel⟩, List.mem_of_getElem? (i := 835) (by decide +kernel), List.mem_of_getElem? (i := 1115) (by decide +kernel), List.mem_of_getElem? (i := 1116) (by decide +kernel)⟩
theorem lw_p49 : lw_okq (⟨"FarHoldModel", "takes", "(II)V"⟩, 50) := ⟨⟨by decide +kernel, by decide +kernel⟩, List.mem_of_getElem? (i := 835) (by decide +kernel), List.mem_of_getElem? (i := 1119) (by decide +kernel), List.mem_of_getElem? (i := 1120) (by decide +kernel)⟩
theorem lw_p50 : lw_okq (⟨"FarHoldModel", "given", "(II)V"⟩, 50) := ⟨⟨by decide +kernel, by decide +kernel⟩, List.mem_of_getElem? (i := 835) (by decide +kernel), List.mem_of_getElem? (i := 1123) (by decide +kernel), List.mem_of_getElem? (i := 1124) (by decide +kernel)⟩
theorem lw_p51 : lw_okq (⟨"FarHoldModel", "stepped", "(I)V"⟩, 50) := ⟨⟨by decide +kernel, by decide +kernel⟩, List.mem_of_getElem? (i := 835) (by decide +kernel), List.mem_of_getElem? (i := 1127) (by decide +kernel), List.mem_of_getElem? (i := 1128) (by decide +kernel)⟩
theorem lw_p52 : lw_okq (⟨"FarHoldModel", "note", "(II)V"⟩, 50) := ⟨⟨by decide +kernel, by decide +kernel⟩, List.mem_of_getElem? (i := 835) (by decide +kernel), List.mem_of_getElem? (i := 1131) (by decide +kernel), List.mem_of_getElem? (i := 1132) (by decide +kernel)⟩
theorem lw_p53 : lw_okq (⟨"FarHoldModel", "isRooted", "(I)Z"⟩, 50) := ⟨⟨by decide +kernel, by decide +kernel⟩, List.mem_of_getElem? (i := 835) (by decide +kernel), List.mem_of_getElem? (i := 1135) (by decide +kernel), List.mem_of_getElem? (i := 1136) (by decide +kernel)⟩
theorem lw_p54 : lw_okq (⟨"FarHoldModel", "isWaited", "(I)Z"⟩, 50) := ⟨⟨by decide +kernel, by decide +kernel⟩, List.mem_of_getElem? (i := 835) (by decide +kernel), List.mem_of_getElem? (i := 1139) (by decide +kernel), List.mem_of_getElem? (i := 1140) (by decide +kernel)⟩
theorem lw_p55 : lw_okq (⟨"FarHoldModel", "holdsOut", "(I)Z"⟩, 50) := ⟨⟨by decide +kernel, by decide +kernel⟩, List.mem_of_getElem? (i := 835) (by decide +kernel), List.mem_of_getElem? (i := 1143) (by decide +kernel), List.mem_of_getElem? (i := 1144) (by decide +kernel)⟩
theorem lw_p56 : lw_okq (⟨"FarHoldModel", "backs", "(I)V"⟩, 50) := ⟨⟨by decide +kernel, by decide +kernel⟩, List.mem_of_getElem? (i := 835) (by decide +kernel), List.mem_of_getElem? (i := 1147) (by decide +kernel), List.mem_of_getElem? (i := 1148) (by decide +kernel)⟩
theorem lw_p57 : lw_okq (⟨"FarHoldModel", "isAlive", "(II)Z"⟩, 50) := ⟨⟨by decide +kernel, by decide +kernel⟩, List.mem_of_getElem? (i := 835) (by decide +kernel), List.mem_of_getElem? (i := 1151) (by decide +kernel), List.mem_of_getElem? (i := 1152) (by decide +kernel)⟩
theorem lw_p58 : lw_okq (⟨"FarHoldModel", "becomesAlive", "(II)Z"⟩, 50) := ⟨⟨by decide +kernel, by decide +kernel⟩, List.mem_of_getElem? (i := 835) (by decide +kernel), List.mem_of_getElem? (i := 1155) (by decide +kernel), List.mem_of_getElem? (i := 1156) (by decide +kernel)⟩
theorem lw_p59 : lw_okq (⟨"FarHoldModel", "isHeld", "(II)Z"⟩, 50) := ⟨⟨by decide +kernel, by decide +kernel⟩, List.mem_of_getElem? (i := 835) (by decide +kernel), List.mem_of_getElem? (i := 1159) (by decide +kernel), List.mem_of_getElem? (i := 1160) (by decide +kernel)⟩
theorem lw_p60 : lw_okq (⟨"FarHoldModel", "measure", "(I)V"⟩, 50) := ⟨⟨by decide +kernel, by decide +kernel⟩, List.mem_of_getElem? (i := 835) (by decide +kernel), List.mem_of_getElem? (i := 1187) (by decide +kernel), List.mem_of_getElem? (i := 1188) (by decide +kernel)⟩
theorem lw_p61 : lw_okq (⟨"FarHoldModel", "goes", "(II)Z"⟩, 50) := ⟨⟨by decide +kernel, by decide +kernel⟩, List.mem_of_getElem? (i := 835) (by decide +kernel), List.mem_of_getElem? (i := 1191) (by decide +kernel), List.mem_of_getElem? (i := 1192) (by decide +kernel)⟩
theorem lw_p62 : lw_okq (⟨"FarHoldModel", "rootFor", "()I"⟩, 50) := ⟨⟨by decide +kernel, by decide +kernel⟩, List.mem_of_getElem? (i := 835) (by decide +kernel), List.mem_of_getElem? (i := 1195) (by decide +kernel), List.mem_of_getElem? (i := 1196) (by decide +kernel)⟩
theorem lw_p63 : lw_okq (⟨"FarHoldModel", "marksMeant", "()V"⟩, 50) := ⟨⟨by decide +kernel, by decide +kernel⟩, List.mem_of_getElem? (i := 835) (by decide +kernel), List.mem_of_getElem? (i := 1207) (by decide +kernel), List.mem_of_getElem? (i := 1208) (by decide +kernel)⟩
def lw_privs_4 : List (MethodName × Nat) := [(⟨"FarHoldModel", "named", "(III)V"⟩, 50), (⟨"FarHoldModel", "takes", "(II)V"⟩, 50), (⟨"FarHoldModel", "given", "(II)V"⟩, 50), (⟨"FarHoldModel", "stepped", "(I)V"⟩, 50), (⟨"FarHoldModel", "note", "(II)V"⟩, 50), (⟨"FarHoldModel", "isRooted", "(I)Z"⟩, 50), (⟨"FarHoldModel", "isWaited", "(I)Z"⟩, 50), (⟨"FarHoldModel", "holdsOut", "(I)Z"⟩, 50), (⟨"FarHoldModel", "backs", "(I)V"⟩, 50), (⟨"FarHoldModel", "isAlive", "(II)Z"⟩, 50), (⟨"FarHoldModel", "becomesAlive", "(II)Z"⟩, 50), (⟨"FarHoldModel", "isHeld", "(II)Z"⟩, 50), (⟨"FarHoldModel", "measure", "(I)V"⟩, 50), (⟨"FarHoldModel", "goes", "(II)Z"⟩, 50), (⟨"FarHoldModel", "rootFor", "()I"⟩, 50), (⟨"FarHoldModel", "marksMeant", "()V"⟩, 50)]
theorem lw_r4 : ∀ q ∈ lw_privs_4, lw_okq q := List.forall_mem_cons.mpr ⟨lw_p48, List.forall_mem_cons.mpr ⟨lw_p49, List.forall_mem_cons.mpr ⟨lw_p50, List.forall_mem_cons.mpr ⟨lw_p51, List.forall_mem_cons.mpr ⟨lw_p52, List.forall_mem_cons.mpr ⟨lw_p53, List.forall_mem_cons.mpr ⟨lw_p54, List.forall_mem_cons.mpr ⟨lw_p55, List.forall_mem_cons.mpr ⟨lw_p56, List.forall_mem_cons.mpr ⟨lw_p57, List.forall_mem_cons.mpr ⟨lw_p58, List.forall_mem_cons.mpr ⟨lw_p59, List.forall_mem_cons.mpr ⟨lw_p60, List.forall_mem_cons.mpr ⟨lw_p61, List.forall_mem_cons.mpr ⟨lw_p62, List.forall_mem_cons.mpr ⟨lw_p63, fun _ h => absurd h List.not_mem_nil⟩⟩⟩⟩⟩⟩⟩⟩⟩⟩⟩⟩⟩⟩⟩⟩
def lw_privs : List (MethodName × Nat) := lw_privs_1 ++ (lw_privs_2 ++ (lw_privs_3 ++ (lw_privs_4)))
def lw_tbl : List Cond := k2_sels lw_privs ++ tables_1
theorem lw_privs_ok : ∀ q ∈ lw_privs, lw_okq q := by
  show ∀ q ∈ lw_privs_1 ++ (lw_privs_2 ++ (lw_privs_3 ++ (lw_privs_4))), lw_okq q
  exact List.forall_mem_append.mpr ⟨lw_r1, List.forall_mem_append.mpr ⟨lw_r2, List.forall_mem_append.mpr ⟨lw_r3, lw_r4⟩⟩⟩
/-- the words that ride on into a callee -/
def wT : List Cond := lw_tbl.filter goodWord
end
section
def RX0 : String := "FarHold$Letter"
def TX0 : u_T := fun k => match k with
  | 0 => ("FarHold$Letter", "kind", "I", true)
  | 1 => ("FarHold$Letter", "from", "I", true)
  | 2 => ("FarHold$Letter", "to", "I", true)
  | 3 => ("FarHold$Letter", "about", "LFarHold$Thing;", true)
  | 4 => ("FarHold$Letter", "weight", "I", false)
  | 5 => ("FarHold$Letter", "target", "LFarHold$Thing;", false)
  | 6 => ("FarHold$Letter", "place", "I", false)
  | 7 => ("FarHold$Letter", "ofWalk", "LFarHold$Walk;", false)
  | 8 => ("FarHold$Letter", "told", "I", false)
  | _ => ("FarHold$Letter", "isUnderWay", "Z", false)
def tyX0 : Nat → FieldType := fun k => match k with
  | 0 => .int
  | 1 => .int
  | 2 => .int
  | 3 => .object "FarHold$Thing"
  | 4 => .int
  | 5 => .object "FarHold$Thing"
  | 6 => .int
  | 7 => .object "FarHold$Walk"
  | 8 => .int
  | _ => .boolean
theorem nmX0 : ∀ a, a < 10 → ∀ b, b < 10 → a ≠ b → (TX0 a).2.1 ≠ (TX0 b).2.1 := by decide +kernel
theorem tyX0_ok : ∀ k, k < 10 → parseFieldDescriptor (TX0 k).2.2.1 = some (tyX0 k) := by decide +kernel
abbrev cX0_init : ByteArray := prog_2_method_1_code
def yX0_init : MethodName := ⟨RX0, "<init>", "(IIILFarHold$Thing;)V"⟩
def RX1 : String := "FarHold$Meaning"
def TX1 : u_T := fun k => match k with
  | 0 => ("FarHold$Meaning", "found", "LFarHold$Reach;", true)
  | 1 => ("FarHold$Meaning", "isNext", "[Z", true)
  | 2 => ("FarHold$Meaning", "before", "[LFarHold$Thing;", true)
  | 3 => ("FarHold$Meaning", "depth", "[I", true)
  | _ => ("FarHold$Meaning", "nextSize", "I", false)
def tyX1 : Nat → FieldType := fun k => match k with
  | 0 => .object "FarHold$Reach"
  | 1 => .array .boolean
  | 2 => .array (.object "FarHold$Thing")
  | 3 => .array .int
  | _ => .int
theorem nmX1 : ∀ a, a < 5 → ∀ b, b < 5 → a ≠ b → (TX1 a).2.1 ≠ (TX1 b).2.1 := by decide +kernel
theorem tyX1_ok : ∀ k, k < 5 → parseFieldDescriptor (TX1 k).2.2.1 = some (tyX1 k) := by decide +kernel
abbrev cX1_init : ByteArray := prog_3_method_1_code
def yX1_init : MethodName := ⟨RX1, "<init>", "()V"⟩
abbrev cX1_has : ByteArray := prog_3_method_2_code
def yX1_has : MethodName := ⟨RX1, "has", "(LFarHold$Thing;)Z"⟩
abbrev cX1_trace : ByteArray := prog_3_method_3_code
def yX1_trace : MethodName := ⟨RX1, "trace", "(LFarHold$Things;LFarHold$Post;LFarHold$Waiting;)V"⟩
abbrev cX1_markNext : ByteArray := prog_3_method_4_code
def yX1_markNext : MethodName := ⟨RX1, "markNext", "(LFarHold$Thing;LFarHold$Post;LFarHold$Waiting;)V"⟩
abbrev cX1_markNextThing : ByteArray := prog_3_method_5_code
def yX1_markNextThing : MethodName := ⟨RX1, "markNextThing", "(LFarHold$Thing;)V"⟩
abbrev cX1_addNextByNumbers : ByteArray := prog_3_method_6_code
def yX1_addNextByNumbers : MethodName := ⟨RX1, "addNextByNumbers", "(LFarHold$Thing;LFarHold$Things;)V"⟩
abbrev cX1_addBehind : ByteArray := prog_3_method_7_code
def yX1_addBehind : MethodName := ⟨RX1, "addBehind", "(LFarHold$Thing;LFarHold$Thing;)V"⟩
abbrev cX1_depthOf : ByteArray := prog_3_method_8_code
def yX1_depthOf : MethodName := ⟨RX1, "depthOf", "(LFarHold$Thing;)I"⟩
abbrev cX1_beforeOf : ByteArray := prog_3_method_9_code
def yX1_beforeOf : MethodName := ⟨RX1, "beforeOf", "(LFarHold$Thing;)LFarHold$Thing;"⟩
abbrev cX1_onTheWay : ByteArray := prog_3_method_10_code
def yX1_onTheWay : MethodName := ⟨RX1, "onTheWay", "(LFarHold$Thing;I)I"⟩
def RX2 : String := "FarHold$Post"
def TX2 : u_T := fun k => match k with
  | 0 => ("FarHold$Post", "all", "[LFarHold$Letter;", true)
  | _ => ("FarHold$Post", "made", "I", false)
def tyX2 : Nat → FieldType := fun k => match k with
  | 0 => .array (.object "FarHold$Letter")
  | _ => .int
theorem nmX2 : ∀ a, a < 2 → ∀ b, b < 2 → a ≠ b → (TX2 a).2.1 ≠ (TX2 b).2.1 := by decide +kernel
theorem tyX2_ok : ∀ k, k < 2 → parseFieldDescriptor (TX2 k).2.2.1 = some (tyX2 k) := by decide +kernel
abbrev cX2_init : ByteArray := prog_4_method_1_code
def yX2_init : MethodName := ⟨RX2, "<init>", "()V"⟩
abbrev cX2_size : ByteArray := prog_4_method_2_code
def yX2_size : MethodName := ⟨RX2, "size", "()I"⟩
abbrev cX2_hasRoom : ByteArray := prog_4_method_3_code
def yX2_hasRoom : MethodName := ⟨RX2, "hasRoom", "(I)Z"⟩
abbrev cX2_find : ByteArray := prog_4_method_4_code
def yX2_find : MethodName := ⟨RX2, "find", "(I)LFarHold$Letter;"⟩
abbrev cX2_file : ByteArray := prog_4_method_5_code
def yX2_file : MethodName := ⟨RX2, "file", "(LFarHold$Letter;)I"⟩
abbrev cX2_fileName : ByteArray := prog_4_method_6_code
def yX2_fileName : MethodName := ⟨RX2, "fileName", "(ILFarHold$Thing;ILFarHold$Thing;I)I"⟩
abbrev cX2_fileOfWeight : ByteArray := prog_4_method_7_code
def yX2_fileOfWeight : MethodName := ⟨RX2, "fileOfWeight", "(IIILFarHold$Thing;I)I"⟩
abbrev cX2_fileOfWalk : ByteArray := prog_4_method_8_code
def yX2_fileOfWalk : MethodName := ⟨RX2, "fileOfWalk", "(ILFarHold$Walk;ILFarHold$Thing;I)I"⟩
abbrev cX2_sizeUnderWay : ByteArray := prog_4_method_9_code
def yX2_sizeUnderWay : MethodName := ⟨RX2, "sizeUnderWay", "()I"⟩
abbrev cX2_weightUnderWay : ByteArray := prog_4_method_10_code
def yX2_weightUnderWay : MethodName := ⟨RX2, "weightUnderWay", "(LFarHold$Thing;)I"⟩
def RX3 : String := "FarHold$Reach"
def TX3 : u_T := fun k => match k with
  | 0 => ("FarHold$Reach", "marked", "[Z", true)
  | 1 => ("FarHold$Reach", "order", "[LFarHold$Thing;", true)
  | _ => ("FarHold$Reach", "filled", "I", false)
def tyX3 : Nat → FieldType := fun k => match k with
  | 0 => .array .boolean
  | 1 => .array (.object "FarHold$Thing")
  | _ => .int
theorem nmX3 : ∀ a, a < 3 → ∀ b, b < 3 → a ≠ b → (TX3 a).2.1 ≠ (TX3 b).2.1 := by decide +kernel
theorem tyX3_ok : ∀ k, k < 3 → parseFieldDescriptor (TX3 k).2.2.1 = some (tyX3 k) := by decide +kernel
abbrev cX3_init : ByteArray := prog_5_method_1_code
def yX3_init : MethodName := ⟨RX3, "<init>", "()V"⟩
abbrev cX3_restart : ByteArray := prog_5_method_2_code
def yX3_restart : MethodName := ⟨RX3, "restart", "()V"⟩
abbrev cX3_size : ByteArray := prog_5_method_3_code
def yX3_size : MethodName := ⟨RX3, "size", "()I"⟩
abbrev cX3_at : ByteArray := prog_5_method_4_code
def yX3_at : MethodName := ⟨RX3, "at", "(I)LFarHold$Thing;"⟩
abbrev cX3_has : ByteArray := prog_5_method_5_code
def yX3_has : MethodName := ⟨RX3, "has", "(LFarHold$Thing;)Z"⟩
abbrev cX3_add : ByteArray := prog_5_method_6_code
def yX3_add : MethodName := ⟨RX3, "add", "(LFarHold$Thing;)V"⟩
abbrev cX3_addHeldBy : ByteArray := prog_5_method_7_code
def yX3_addHeldBy : MethodName := ⟨RX3, "addHeldBy", "(LFarHold$Thing;)V"⟩
abbrev cX3_spread : ByteArray := prog_5_method_8_code
def yX3_spread : MethodName := ⟨RX3, "spread", "()V"⟩
def RX4 : String := "FarHold$Row"
def TX4 : u_T := fun k => match k with
  | 0 => ("FarHold$Row", "sort", "I", true)
  | _ => ("FarHold$Row", "values", "[J", true)
def tyX4 : Nat → FieldType := fun k => match k with
  | 0 => .int
  | _ => .array .long
theorem nmX4 : ∀ a, a < 2 → ∀ b, b < 2 → a ≠ b → (TX4 a).2.1 ≠ (TX4 b).2.1 := by decide +kernel
theorem tyX4_ok : ∀ k, k < 2 → parseFieldDescriptor (TX4 k).2.2.1 = some (tyX4 k) := by decide +kernel
abbrev cX4_init : ByteArray := prog_6_method_1_code
def yX4_init : MethodName := ⟨RX4, "<init>", "(II)V"⟩
abbrev cX4_hasElement : ByteArray := prog_6_method_2_code
def yX4_hasElement : MethodName := ⟨RX4, "hasElement", "(I)Z"⟩
abbrev cX4_read : ByteArray := prog_6_method_3_code
def yX4_read : MethodName := ⟨RX4, "read", "(I)J"⟩
abbrev cX4_write : ByteArray := prog_6_method_4_code
def yX4_write : MethodName := ⟨RX4, "write", "(IJ)V"⟩
abbrev cX4_cut : ByteArray := prog_6_method_5_code
def yX4_cut : MethodName := ⟨RX4, "cut", "(J)J"⟩
abbrev cX4_canTake : ByteArray := prog_6_method_6_code
def yX4_canTake : MethodName := ⟨RX4, "canTake", "(LFarHold$Row;II)Z"⟩
abbrev cX4_take : ByteArray := prog_6_method_7_code
def yX4_take : MethodName := ⟨RX4, "take", "(LFarHold$Row;II)V"⟩
def RX5 : String := "FarHold$Thing"
def TX5 : u_T := fun k => match k with
  | 0 => ("FarHold$Thing", "number", "I", true)
  | 1 => ("FarHold$Thing", "kind", "I", true)
  | 2 => ("FarHold$Thing", "host", "I", true)
  | 3 => ("FarHold$Thing", "heldThings", "[LFarHold$Thing;", true)
  | 4 => ("FarHold$Thing", "heldRows", "[LFarHold$Row;", true)
  | 5 => ("FarHold$Thing", "mark", "I", false)
  | 6 => ("FarHold$Thing", "named", "LFarHold$Thing;", false)
  | 7 => ("FarHold$Thing", "weight", "I", false)
  | 8 => ("FarHold$Thing", "exit", "I", false)
  | 9 => ("FarHold$Thing", "broken", "Z", false)
  | _ => ("FarHold$Thing", "isThere", "Z", false)
def tyX5 : Nat → FieldType := fun k => match k with
  | 0 => .int
  | 1 => .int
  | 2 => .int
  | 3 => .array (.object "FarHold$Thing")
  | 4 => .array (.object "FarHold$Row")
  | 5 => .int
  | 6 => .object "FarHold$Thing"
  | 7 => .int
  | 8 => .int
  | 9 => .boolean
  | _ => .boolean
theorem nmX5 : ∀ a, a < 11 → ∀ b, b < 11 → a ≠ b → (TX5 a).2.1 ≠ (TX5 b).2.1 := by decide +kernel
theorem tyX5_ok : ∀ k, k < 11 → parseFieldDescriptor (TX5 k).2.2.1 = some (tyX5 k) := by decide +kernel
abbrev cX5_init : ByteArray := prog_7_method_1_code
def yX5_init : MethodName := ⟨RX5, "<init>", "(IIII)V"⟩
abbrev cX5_placesSize : ByteArray := prog_7_method_2_code
def yX5_placesSize : MethodName := ⟨RX5, "placesSize", "()I"⟩
abbrev cX5_hasPlaces : ByteArray := prog_7_method_3_code
def yX5_hasPlaces : MethodName := ⟨RX5, "hasPlaces", "()Z"⟩
abbrev cX5_hasPlace : ByteArray := prog_7_method_4_code
def yX5_hasPlace : MethodName := ⟨RX5, "hasPlace", "(I)Z"⟩
abbrev cX5_thingAt : ByteArray := prog_7_method_5_code
def yX5_thingAt : MethodName := ⟨RX5, "thingAt", "(I)LFarHold$Thing;"⟩
abbrev cX5_rowAt : ByteArray := prog_7_method_6_code
def yX5_rowAt : MethodName := ⟨RX5, "rowAt", "(I)LFarHold$Row;"⟩
abbrev cX5_holdsNothing : ByteArray := prog_7_method_7_code
def yX5_holdsNothing : MethodName := ⟨RX5, "holdsNothing", "(I)Z"⟩
abbrev cX5_holdThing : ByteArray := prog_7_method_8_code
def yX5_holdThing : MethodName := ⟨RX5, "holdThing", "(ILFarHold$Thing;)V"⟩
abbrev cX5_holdRow : ByteArray := prog_7_method_9_code
def yX5_holdRow : MethodName := ⟨RX5, "holdRow", "(ILFarHold$Row;)V"⟩
abbrev cX5_isAnchor : ByteArray := prog_7_method_10_code
def yX5_isAnchor : MethodName := ⟨RX5, "isAnchor", "()Z"⟩
abbrev cX5_takeFromExit : ByteArray := prog_7_method_11_code
def yX5_takeFromExit : MethodName := ⟨RX5, "takeFromExit", "(I)V"⟩
def RX6 : String := "FarHold$Things"
def TX6 : u_T := fun k => match k with
  | 0 => ("FarHold$Things", "all", "[LFarHold$Thing;", true)
  | _ => ("FarHold$Things", "made", "I", false)
def tyX6 : Nat → FieldType := fun k => match k with
  | 0 => .array (.object "FarHold$Thing")
  | _ => .int
theorem nmX6 : ∀ a, a < 2 → ∀ b, b < 2 → a ≠ b → (TX6 a).2.1 ≠ (TX6 b).2.1 := by decide +kernel
theorem tyX6_ok : ∀ k, k < 2 → parseFieldDescriptor (TX6 k).2.2.1 = some (tyX6 k) := by decide +kernel
abbrev cX6_init : ByteArray := prog_8_method_1_code
def yX6_init : MethodName := ⟨RX6, "<init>", "()V"⟩
abbrev cX6_size : ByteArray := prog_8_method_2_code
def yX6_size : MethodName := ⟨RX6, "size", "()I"⟩
abbrev cX6_sizeThere : ByteArray := prog_8_method_3_code
def yX6_sizeThere : MethodName := ⟨RX6, "sizeThere", "()I"⟩
abbrev cX6_make : ByteArray := prog_8_method_4_code
def yX6_make : MethodName := ⟨RX6, "make", "(III)LFarHold$Thing;"⟩
abbrev cX6_ever : ByteArray := prog_8_method_5_code
def yX6_ever : MethodName := ⟨RX6, "ever", "(I)LFarHold$Thing;"⟩
abbrev cX6_find : ByteArray := prog_8_method_6_code
def yX6_find : MethodName := ⟨RX6, "find", "(I)LFarHold$Thing;"⟩
abbrev cX6_gateAt : ByteArray := prog_8_method_7_code
def yX6_gateAt : MethodName := ⟨RX6, "gateAt", "(ILFarHold$Thing;)LFarHold$Thing;"⟩
abbrev cX6_weightOfGates : ByteArray := prog_8_method_8_code
def yX6_weightOfGates : MethodName := ⟨RX6, "weightOfGates", "(LFarHold$Thing;)I"⟩
def RX7 : String := "FarHold$Waiting"
def TX7 : u_T := fun k => match k with
  | 0 => ("FarHold$Waiting", "names", "[LFarHold$WaitingName;", true)
  | _ => ("FarHold$Waiting", "filled", "I", false)
def tyX7 : Nat → FieldType := fun k => match k with
  | 0 => .array (.object "FarHold$WaitingName")
  | _ => .int
theorem nmX7 : ∀ a, a < 2 → ∀ b, b < 2 → a ≠ b → (TX7 a).2.1 ≠ (TX7 b).2.1 := by decide +kernel
theorem tyX7_ok : ∀ k, k < 2 → parseFieldDescriptor (TX7 k).2.2.1 = some (tyX7 k) := by decide +kernel
abbrev cX7_init : ByteArray := prog_9_method_1_code
def yX7_init : MethodName := ⟨RX7, "<init>", "()V"⟩
abbrev cX7_size : ByteArray := prog_9_method_2_code
def yX7_size : MethodName := ⟨RX7, "size", "()I"⟩
abbrev cX7_at : ByteArray := prog_9_method_3_code
def yX7_at : MethodName := ⟨RX7, "at", "(I)LFarHold$WaitingName;"⟩
abbrev cX7_add : ByteArray := prog_9_method_4_code
def yX7_add : MethodName := ⟨RX7, "add", "(LFarHold$Thing;LFarHold$Thing;I)Z"⟩
abbrev cX7_firstFor : ByteArray := prog_9_method_5_code
def yX7_firstFor : MethodName := ⟨RX7, "firstFor", "(LFarHold$Thing;)I"⟩
abbrev cX7_remove : ByteArray := prog_9_method_6_code
def yX7_remove : MethodName := ⟨RX7, "remove", "(I)V"⟩
def RX8 : String := "FarHold$WaitingName"
def TX8 : u_T := fun k => match k with
  | 0 => ("FarHold$WaitingName", "sent", "LFarHold$Thing;", true)
  | 1 => ("FarHold$WaitingName", "target", "LFarHold$Thing;", true)
  | _ => ("FarHold$WaitingName", "place", "I", true)
def tyX8 : Nat → FieldType := fun k => match k with
  | 0 => .object "FarHold$Thing"
  | 1 => .object "FarHold$Thing"
  | _ => .int
theorem nmX8 : ∀ a, a < 3 → ∀ b, b < 3 → a ≠ b → (TX8 a).2.1 ≠ (TX8 b).2.1 := by decide +kernel
theorem tyX8_ok : ∀ k, k < 3 → parseFieldDescriptor (TX8 k).2.2.1 = some (tyX8 k) := by decide +kernel
abbrev cX8_init : ByteArray := prog_10_method_1_code
def yX8_init : MethodName := ⟨RX8, "<init>", "(LFarHold$Thing;LFarHold$Thing;I)V"⟩
def RX9 : String := "FarHold$Walk"
def TX9 : u_T := fun k => match k with
  | 0 => ("FarHold$Walk", "number", "I", true)
  | 1 => ("FarHold$Walk", "start", "LFarHold$Thing;", true)
  | 2 => ("FarHold$Walk", "passed", "[Z", true)
  | 3 => ("FarHold$Walk", "met", "[Z", true)
  | 4 => ("FarHold$Walk", "metWeights", "[I", true)
  | 5 => ("FarHold$Walk", "noted", "[I", true)
  | 6 => ("FarHold$Walk", "ending", "I", false)
  | 7 => ("FarHold$Walk", "steps", "I", false)
  | 8 => ("FarHold$Walk", "backs", "I", false)
  | 9 => ("FarHold$Walk", "passedSize", "I", false)
  | _ => ("FarHold$Walk", "metSize", "I", false)
def tyX9 : Nat → FieldType := fun k => match k with
  | 0 => .int
  | 1 => .object "FarHold$Thing"
  | 2 => .array .boolean
  | 3 => .array .boolean
  | 4 => .array .int
  | 5 => .array .int
  | 6 => .int
  | 7 => .int
  | 8 => .int
  | 9 => .int
  | _ => .int
theorem nmX9 : ∀ a, a < 11 → ∀ b, b < 11 → a ≠ b → (TX9 a).2.1 ≠ (TX9 b).2.1 := by decide +kernel
theorem tyX9_ok : ∀ k, k < 11 → parseFieldDescriptor (TX9 k).2.2.1 = some (tyX9 k) := by decide +kernel
abbrev cX9_init : ByteArray := prog_11_method_1_code
def yX9_init : MethodName := ⟨RX9, "<init>", "(ILFarHold$Thing;)V"⟩
abbrev cX9_hasPassed : ByteArray := prog_11_method_2_code
def yX9_hasPassed : MethodName := ⟨RX9, "hasPassed", "(LFarHold$Thing;)Z"⟩
abbrev cX9_hasMet : ByteArray := prog_11_method_3_code
def yX9_hasMet : MethodName := ⟨RX9, "hasMet", "(LFarHold$Thing;)Z"⟩
abbrev cX9_weightMetFor : ByteArray := prog_11_method_4_code
def yX9_weightMetFor : MethodName := ⟨RX9, "weightMetFor", "(LFarHold$Thing;)I"⟩
abbrev cX9_pass : ByteArray := prog_11_method_5_code
def yX9_pass : MethodName := ⟨RX9, "pass", "(LFarHold$Thing;I)V"⟩
abbrev cX9_meet : ByteArray := prog_11_method_6_code
def yX9_meet : MethodName := ⟨RX9, "meet", "(LFarHold$Thing;LFarHold$Thing;)V"⟩
abbrev cX9_comeBack : ByteArray := prog_11_method_7_code
def yX9_comeBack : MethodName := ⟨RX9, "comeBack", "(I)V"⟩
abbrev cX9_isChanged : ByteArray := prog_11_method_8_code
def yX9_isChanged : MethodName := ⟨RX9, "isChanged", "([I)Z"⟩
def RX10 : String := "FarHold"
def TX10 : u_T := fun k => match k with
  | 0 => ("FarHold", "things", "LFarHold$Things;", true)
  | 1 => ("FarHold", "post", "LFarHold$Post;", true)
  | 2 => ("FarHold", "waiting", "LFarHold$Waiting;", true)
  | 3 => ("FarHold", "walks", "[LFarHold$Walk;", true)
  | 4 => ("FarHold", "counts", "[I", true)
  | 5 => ("FarHold", "refusals", "[I", true)
  | 6 => ("FarHold", "freedNumbers", "[I", true)
  | 7 => ("FarHold", "reach", "LFarHold$Reach;", true)
  | 8 => ("FarHold", "alive", "LFarHold$Reach;", true)
  | 9 => ("FarHold", "meaning", "LFarHold$Meaning;", true)
  | 10 => ("FarHold", "walksBegun", "I", false)
  | 11 => ("FarHold", "freedSize", "I", false)
  | _ => ("FarHold", "deliveredAgain", "I", false)
def tyX10 : Nat → FieldType := fun k => match k with
  | 0 => .object "FarHold$Things"
  | 1 => .object "FarHold$Post"
  | 2 => .object "FarHold$Waiting"
  | 3 => .array (.object "FarHold$Walk")
  | 4 => .array .int
  | 5 => .array .int
  | 6 => .array .int
  | 7 => .object "FarHold$Reach"
  | 8 => .object "FarHold$Reach"
  | 9 => .object "FarHold$Meaning"
  | 10 => .int
  | 11 => .int
  | _ => .int
theorem nmX10 : ∀ a, a < 13 → ∀ b, b < 13 → a ≠ b → (TX10 a).2.1 ≠ (TX10 b).2.1 := by decide +kernel
theorem tyX10_ok : ∀ k, k < 13 → parseFieldDescriptor (TX10 k).2.2.1 = some (tyX10 k) := by decide +kernel
abbrev cX10_init : ByteArray := prog_1_method_1_code
def yX10_init : MethodName := ⟨RX10, "<init>", "()V"⟩
abbrev cX10_root : ByteArray := prog_1_method_2_code
def yX10_root : MethodName := ⟨RX10, "root", "(II)I"⟩
abbrev cX10_leaf : ByteArray := prog_1_method_3_code
def yX10_leaf : MethodName := ⟨RX10, "leaf", "(III)I"⟩
abbrev cX10_box : ByteArray := prog_1_method_4_code
def yX10_box : MethodName := ⟨RX10, "box", "(III)I"⟩
abbrev cX10_put : ByteArray := prog_1_method_5_code
def yX10_put : MethodName := ⟨RX10, "put", "(III)I"⟩
abbrev cX10_clear : ByteArray := prog_1_method_6_code
def yX10_clear : MethodName := ⟨RX10, "clear", "(II)I"⟩
abbrev cX10_row : ByteArray := prog_1_method_7_code
def yX10_row : MethodName := ⟨RX10, "row", "(IIII)I"⟩
abbrev cX10_set : ByteArray := prog_1_method_8_code
def yX10_set : MethodName := ⟨RX10, "set", "(IIIJ)I"⟩
abbrev cX10_copy : ByteArray := prog_1_method_9_code
def yX10_copy : MethodName := ⟨RX10, "copy", "(IIIII)I"⟩
abbrev cX10_element : ByteArray := prog_1_method_10_code
def yX10_element : MethodName := ⟨RX10, "element", "(III)J"⟩
abbrev cX10_holds : ByteArray := prog_1_method_11_code
def yX10_holds : MethodName := ⟨RX10, "holds", "(II)I"⟩
abbrev cX10_thing : ByteArray := prog_1_method_12_code
def yX10_thing : MethodName := ⟨RX10, "thing", "(II)I"⟩
abbrev cX10_gate : ByteArray := prog_1_method_13_code
def yX10_gate : MethodName := ⟨RX10, "gate", "(II)I"⟩
abbrev cX10_send : ByteArray := prog_1_method_14_code
def yX10_send : MethodName := ⟨RX10, "send", "(III)I"⟩
abbrev cX10_deliver : ByteArray := prog_1_method_15_code
def yX10_deliver : MethodName := ⟨RX10, "deliver", "(I)I"⟩
abbrev cX10_letter : ByteArray := prog_1_method_16_code
def yX10_letter : MethodName := ⟨RX10, "letter", "(II)I"⟩
abbrev cX10_clean : ByteArray := prog_1_method_17_code
def yX10_clean : MethodName := ⟨RX10, "clean", "(I)I"⟩
abbrev cX10_freed : ByteArray := prog_1_method_18_code
def yX10_freed : MethodName := ⟨RX10, "freed", "(I)I"⟩
abbrev cX10_doubt : ByteArray := prog_1_method_19_code
def yX10_doubt : MethodName := ⟨RX10, "doubt", "(I)I"⟩
abbrev cX10_walk : ByteArray := prog_1_method_20_code
def yX10_walk : MethodName := ⟨RX10, "walk", "(II)I"⟩
abbrev cX10_meant : ByteArray := prog_1_method_21_code
def yX10_meant : MethodName := ⟨RX10, "meant", "(I)Z"⟩
abbrev cX10_why : ByteArray := prog_1_method_22_code
def yX10_why : MethodName := ⟨RX10, "why", "(II)I"⟩
abbrev cX10_dead : ByteArray := prog_1_method_23_code
def yX10_dead : MethodName := ⟨RX10, "dead", "(I)I"⟩
abbrev cX10_audit : ByteArray := prog_1_method_24_code
def yX10_audit : MethodName := ⟨RX10, "audit", "(II)I"⟩
abbrev cX10_status : ByteArray := prog_1_method_25_code
def yX10_status : MethodName := ⟨RX10, "status", "(I)I"⟩
abbrev cX10_refuse : ByteArray := prog_1_method_26_code
def yX10_refuse : MethodName := ⟨RX10, "refuse", "(I)I"⟩
abbrev cX10_isHost : ByteArray := prog_1_method_27_code
def yX10_isHost : MethodName := ⟨RX10, "isHost", "(I)Z"⟩
abbrev cX10_touch : ByteArray := prog_1_method_28_code
def yX10_touch : MethodName := ⟨RX10, "touch", "(I)V"⟩
abbrev cX10_countOf : ByteArray := prog_1_method_29_code
def yX10_countOf : MethodName := ⟨RX10, "countOf", "(I)I"⟩
abbrev cX10_sumOfCounts : ByteArray := prog_1_method_30_code
def yX10_sumOfCounts : MethodName := ⟨RX10, "sumOfCounts", "()I"⟩
abbrev cX10_isNear : ByteArray := prog_1_method_31_code
def yX10_isNear : MethodName := ⟨RX10, "isNear", "(LFarHold$Thing;)Z"⟩
abbrev cX10_addRoots : ByteArray := prog_1_method_32_code
def yX10_addRoots : MethodName := ⟨RX10, "addRoots", "(I)V"⟩
abbrev cX10_sendName : ByteArray := prog_1_method_33_code
def yX10_sendName : MethodName := ⟨RX10, "sendName", "(LFarHold$Thing;LFarHold$Thing;I)I"⟩
abbrev cX10_arrive : ByteArray := prog_1_method_34_code
def yX10_arrive : MethodName := ⟨RX10, "arrive", "(LFarHold$Letter;)Z"⟩
abbrev cX10_arriveName : ByteArray := prog_1_method_35_code
def yX10_arriveName : MethodName := ⟨RX10, "arriveName", "(LFarHold$Letter;)Z"⟩
abbrev cX10_gateWithMore : ByteArray := prog_1_method_36_code
def yX10_gateWithMore : MethodName := ⟨RX10, "gateWithMore", "(ILFarHold$Thing;I)LFarHold$Thing;"⟩
abbrev cX10_arriveMore : ByteArray := prog_1_method_37_code
def yX10_arriveMore : MethodName := ⟨RX10, "arriveMore", "(LFarHold$Letter;)Z"⟩
abbrev cX10_arriveGive : ByteArray := prog_1_method_38_code
def yX10_arriveGive : MethodName := ⟨RX10, "arriveGive", "(LFarHold$Letter;)Z"⟩
abbrev cX10_arriveHome : ByteArray := prog_1_method_39_code
def yX10_arriveHome : MethodName := ⟨RX10, "arriveHome", "(LFarHold$Letter;)Z"⟩
abbrev cX10_arriveStep : ByteArray := prog_1_method_40_code
def yX10_arriveStep : MethodName := ⟨RX10, "arriveStep", "(LFarHold$Letter;)Z"⟩
abbrev cX10_gatesToMeet : ByteArray := prog_1_method_41_code
def yX10_gatesToMeet : MethodName := ⟨RX10, "gatesToMeet", "(LFarHold$Walk;LFarHold$Thing;)I"⟩
abbrev cX10_meetGates : ByteArray := prog_1_method_42_code
def yX10_meetGates : MethodName := ⟨RX10, "meetGates", "(LFarHold$Walk;LFarHold$Thing;)V"⟩
abbrev cX10_arriveBack : ByteArray := prog_1_method_43_code
def yX10_arriveBack : MethodName := ⟨RX10, "arriveBack", "(LFarHold$Letter;)Z"⟩
abbrev cX10_endWalk : ByteArray := prog_1_method_44_code
def yX10_endWalk : MethodName := ⟨RX10, "endWalk", "(LFarHold$Walk;)V"⟩
abbrev cX10_isStartAlive : ByteArray := prog_1_method_45_code
def yX10_isStartAlive : MethodName := ⟨RX10, "isStartAlive", "(LFarHold$Walk;)Z"⟩
abbrev cX10_addLiveFromOutside : ByteArray := prog_1_method_46_code
def yX10_addLiveFromOutside : MethodName := ⟨RX10, "addLiveFromOutside", "(LFarHold$Walk;)V"⟩
abbrev cX10_revive : ByteArray := prog_1_method_47_code
def yX10_revive : MethodName := ⟨RX10, "revive", "(LFarHold$Walk;LFarHold$Thing;)V"⟩
abbrev cX10_bringAlive : ByteArray := prog_1_method_48_code
def yX10_bringAlive : MethodName := ⟨RX10, "bringAlive", "(LFarHold$Thing;)V"⟩
abbrev cX10_findKept : ByteArray := prog_1_method_49_code
def yX10_findKept : MethodName := ⟨RX10, "findKept", "(I)V"⟩
abbrev cX10_gatesToFree : ByteArray := prog_1_method_50_code
def yX10_gatesToFree : MethodName := ⟨RX10, "gatesToFree", "(I)I"⟩
abbrev cX10_free : ByteArray := prog_1_method_51_code
def yX10_free : MethodName := ⟨RX10, "free", "(LFarHold$Thing;)V"⟩
def RX11 : String := "FarHoldModel"
def TX11 : u_T := fun k => match k with
  | 0 => ("FarHoldModel", "kind", "[I", true)
  | 1 => ("FarHoldModel", "host", "[I", true)
  | 2 => ("FarHoldModel", "mark", "[I", true)
  | 3 => ("FarHoldModel", "places", "[I", true)
  | 4 => ("FarHoldModel", "exit", "[I", true)
  | 5 => ("FarHoldModel", "of", "[I", true)
  | 6 => ("FarHoldModel", "weight", "[I", true)
  | 7 => ("FarHoldModel", "gone", "[Z", true)
  | 8 => ("FarHoldModel", "broken", "[Z", true)
  | 9 => ("FarHoldModel", "things", "I", false)
  | 10 => ("FarHoldModel", "holds", "[I", true)
  | 11 => ("FarHoldModel", "what", "[I", true)
  | 12 => ("FarHoldModel", "sizes", "[I", true)
  | 13 => ("FarHoldModel", "elements", "[J", true)
  | 14 => ("FarHoldModel", "lKind", "[I", true)
  | 15 => ("FarHoldModel", "lTo", "[I", true)
  | 16 => ("FarHoldModel", "lFrom", "[I", true)
  | 17 => ("FarHoldModel", "lThing", "[I", true)
  | 18 => ("FarHoldModel", "lWeight", "[I", true)
  | 19 => ("FarHoldModel", "lRoot", "[I", true)
  | 20 => ("FarHoldModel", "lPlace", "[I", true)
  | 21 => ("FarHoldModel", "lWalk", "[I", true)
  | 22 => ("FarHoldModel", "lSteps", "[I", true)
  | 23 => ("FarHoldModel", "isUnder", "[Z", true)
  | 24 => ("FarHoldModel", "letters", "I", false)
  | 25 => ("FarHoldModel", "again", "I", false)
  | 26 => ("FarHoldModel", "waitGate", "[I", true)
  | 27 => ("FarHoldModel", "waitRoot", "[I", true)
  | 28 => ("FarHoldModel", "waitPlace", "[I", true)
  | 29 => ("FarHoldModel", "waits", "I", false)
  | 30 => ("FarHoldModel", "counts", "[I", true)
  | 31 => ("FarHoldModel", "refusals", "[I", true)
  | 32 => ("FarHoldModel", "freedList", "[I", true)
  | 33 => ("FarHoldModel", "freedMany", "I", false)
  | 34 => ("FarHoldModel", "leads", "[Z", true)
  | 35 => ("FarHoldModel", "near", "[Z", true)
  | 36 => ("FarHoldModel", "row", "[I", true)
  | 37 => ("FarHoldModel", "wEnd", "[I", true)
  | 38 => ("FarHoldModel", "wFrom", "[I", true)
  | 39 => ("FarHoldModel", "wBack", "[I", true)
  | 40 => ("FarHoldModel", "wSteps", "[I", true)
  | 41 => ("FarHoldModel", "wCount", "[I", true)
  | 42 => ("FarHoldModel", "wNoted", "[Z", true)
  | 43 => ("FarHoldModel", "wRooted", "[Z", true)
  | 44 => ("FarHoldModel", "wWeight", "[I", true)
  | 45 => ("FarHoldModel", "wHeld", "[J", true)
  | 46 => ("FarHoldModel", "walks", "I", false)
  | 47 => ("FarHoldModel", "alive", "[Z", true)
  | 48 => ("FarHoldModel", "isMet", "[Z", true)
  | _ => ("FarHoldModel", "far", "[I", true)
def tyX11 : Nat → FieldType := fun k => match k with
  | 0 => .array .int
  | 1 => .array .int
  | 2 => .array .int
  | 3 => .array .int
  | 4 => .array .int
  | 5 => .array .int
  | 6 => .array .int
  | 7 => .array .boolean
  | 8 => .array .boolean
  | 9 => .int
  | 10 => .array .int
  | 11 => .array .int
  | 12 => .array .int
  | 13 => .array .long
  | 14 => .array .int
  | 15 => .array .int
  | 16 => .array .int
  | 17 => .array .int
  | 18 => .array .int
  | 19 => .array .int
  | 20 => .array .int
  | 21 => .array .int
  | 22 => .array .int
  | 23 => .array .boolean
  | 24 => .int
  | 25 => .int
  | 26 => .array .int
  | 27 => .array .int
  | 28 => .array .int
  | 29 => .int
  | 30 => .array .int
  | 31 => .array .int
  | 32 => .array .int
  | 33 => .int
  | 34 => .array .boolean
  | 35 => .array .boolean
  | 36 => .array .int
  | 37 => .array .int
  | 38 => .array .int
  | 39 => .array .int
  | 40 => .array .int
  | 41 => .array .int
  | 42 => .array .boolean
  | 43 => .array .boolean
  | 44 => .array .int
  | 45 => .array .long
  | 46 => .int
  | 47 => .array .boolean
  | 48 => .array .boolean
  | _ => .array .int
theorem nmX11 : ∀ a, a < 50 → ∀ b, b < 50 → a ≠ b → (TX11 a).2.1 ≠ (TX11 b).2.1 := by decide +kernel
theorem tyX11_ok : ∀ k, k < 50 → parseFieldDescriptor (TX11 k).2.2.1 = some (tyX11 k) := by decide +kernel
abbrev cX11_init : ByteArray := prog_13_method_1_code
def yX11_init : MethodName := ⟨RX11, "<init>", "()V"⟩
abbrev cX11_refuse : ByteArray := prog_13_method_2_code
def yX11_refuse : MethodName := ⟨RX11, "refuse", "(I)I"⟩
abbrev cX11_isIn : ByteArray := prog_13_method_3_code
def yX11_isIn : MethodName := ⟨RX11, "isIn", "(II)Z"⟩
abbrev cX11_isThere : ByteArray := prog_13_method_4_code
def yX11_isThere : MethodName := ⟨RX11, "isThere", "(I)Z"⟩
abbrev cX11_hasPlaces : ByteArray := prog_13_method_5_code
def yX11_hasPlaces : MethodName := ⟨RX11, "hasPlaces", "(I)Z"⟩
abbrev cX11_noLeads : ByteArray := prog_13_method_6_code
def yX11_noLeads : MethodName := ⟨RX11, "noLeads", "()V"⟩
abbrev cX11_lead : ByteArray := prog_13_method_7_code
def yX11_lead : MethodName := ⟨RX11, "lead", "(I)V"⟩
abbrev cX11_isNear : ByteArray := prog_13_method_8_code
def yX11_isNear : MethodName := ⟨RX11, "isNear", "(I)Z"⟩
abbrev cX11_isWaited : ByteArray := prog_13_method_9_code
def yX11_isWaited : MethodName := ⟨RX11, "isWaited", "(I)Z"⟩
abbrev cX11_isRooted : ByteArray := prog_13_method_10_code
def yX11_isRooted : MethodName := ⟨RX11, "isRooted", "(I)Z"⟩
abbrev cX11_holdsOut : ByteArray := prog_13_method_11_code
def yX11_holdsOut : MethodName := ⟨RX11, "holdsOut", "(I)Z"⟩
abbrev cX11_gateOf : ByteArray := prog_13_method_12_code
def yX11_gateOf : MethodName := ⟨RX11, "gateOf", "(II)I"⟩
abbrev cX11_make : ByteArray := prog_13_method_13_code
def yX11_make : MethodName := ⟨RX11, "make", "(III)I"⟩
abbrev cX11_lay : ByteArray := prog_13_method_14_code
def yX11_lay : MethodName := ⟨RX11, "lay", "(III)V"⟩
abbrev cX11_root : ByteArray := prog_13_method_15_code
def yX11_root : MethodName := ⟨RX11, "root", "(II)I"⟩
abbrev cX11_place : ByteArray := prog_13_method_16_code
def yX11_place : MethodName := ⟨RX11, "place", "(II)I"⟩
abbrev cX11_leaf : ByteArray := prog_13_method_17_code
def yX11_leaf : MethodName := ⟨RX11, "leaf", "(III)I"⟩
abbrev cX11_box : ByteArray := prog_13_method_18_code
def yX11_box : MethodName := ⟨RX11, "box", "(III)I"⟩
abbrev cX11_put : ByteArray := prog_13_method_19_code
def yX11_put : MethodName := ⟨RX11, "put", "(III)I"⟩
abbrev cX11_clear : ByteArray := prog_13_method_20_code
def yX11_clear : MethodName := ⟨RX11, "clear", "(II)I"⟩
abbrev cX11_row : ByteArray := prog_13_method_21_code
def yX11_row : MethodName := ⟨RX11, "row", "(IIII)I"⟩
abbrev cX11_low : ByteArray := prog_13_method_22_code
def yX11_low : MethodName := ⟨RX11, "low", "(IJ)J"⟩
abbrev cX11_set : ByteArray := prog_13_method_23_code
def yX11_set : MethodName := ⟨RX11, "set", "(IIIJ)I"⟩
abbrev cX11_copy : ByteArray := prog_13_method_24_code
def yX11_copy : MethodName := ⟨RX11, "copy", "(IIIII)I"⟩
abbrev cX11_element : ByteArray := prog_13_method_25_code
def yX11_element : MethodName := ⟨RX11, "element", "(III)J"⟩
abbrev cX11_holds : ByteArray := prog_13_method_26_code
def yX11_holds : MethodName := ⟨RX11, "holds", "(II)I"⟩
abbrev cX11_thing : ByteArray := prog_13_method_27_code
def yX11_thing : MethodName := ⟨RX11, "thing", "(II)I"⟩
abbrev cX11_gate : ByteArray := prog_13_method_28_code
def yX11_gate : MethodName := ⟨RX11, "gate", "(II)I"⟩
abbrev cX11_letter : ByteArray := prog_13_method_29_code
def yX11_letter : MethodName := ⟨RX11, "letter", "(IIIII)I"⟩
abbrev cX11_name : ByteArray := prog_13_method_30_code
def yX11_name : MethodName := ⟨RX11, "name", "(IIIII)I"⟩
abbrev cX11_half : ByteArray := prog_13_method_31_code
def yX11_half : MethodName := ⟨RX11, "half", "(III)I"⟩
abbrev cX11_send : ByteArray := prog_13_method_32_code
def yX11_send : MethodName := ⟨RX11, "send", "(III)I"⟩
abbrev cX11_takes : ByteArray := prog_13_method_33_code
def yX11_takes : MethodName := ⟨RX11, "takes", "(II)V"⟩
abbrev cX11_sends : ByteArray := prog_13_method_34_code
def yX11_sends : MethodName := ⟨RX11, "sends", "(I)I"⟩
abbrev cX11_deliver : ByteArray := prog_13_method_35_code
def yX11_deliver : MethodName := ⟨RX11, "deliver", "(I)I"⟩
abbrev cX11_named : ByteArray := prog_13_method_36_code
def yX11_named : MethodName := ⟨RX11, "named", "(III)V"⟩
abbrev cX11_given : ByteArray := prog_13_method_37_code
def yX11_given : MethodName := ⟨RX11, "given", "(II)V"⟩
abbrev cX11_letter_ : ByteArray := prog_13_method_38_code
def yX11_letter_ : MethodName := ⟨RX11, "letter", "(II)I"⟩
abbrev cX11_clean : ByteArray := prog_13_method_39_code
def yX11_clean : MethodName := ⟨RX11, "clean", "(I)I"⟩
abbrev cX11_freed : ByteArray := prog_13_method_40_code
def yX11_freed : MethodName := ⟨RX11, "freed", "(I)I"⟩
abbrev cX11_doubt : ByteArray := prog_13_method_41_code
def yX11_doubt : MethodName := ⟨RX11, "doubt", "(I)I"⟩
abbrev cX11_gatesToMeet : ByteArray := prog_13_method_42_code
def yX11_gatesToMeet : MethodName := ⟨RX11, "gatesToMeet", "(II)I"⟩
abbrev cX11_note : ByteArray := prog_13_method_43_code
def yX11_note : MethodName := ⟨RX11, "note", "(II)V"⟩
abbrev cX11_stepped : ByteArray := prog_13_method_44_code
def yX11_stepped : MethodName := ⟨RX11, "stepped", "(I)V"⟩
abbrev cX11_backs : ByteArray := prog_13_method_45_code
def yX11_backs : MethodName := ⟨RX11, "backs", "(I)V"⟩
abbrev cX11_isHeld : ByteArray := prog_13_method_46_code
def yX11_isHeld : MethodName := ⟨RX11, "isHeld", "(II)Z"⟩
abbrev cX11_becomesAlive : ByteArray := prog_13_method_47_code
def yX11_becomesAlive : MethodName := ⟨RX11, "becomesAlive", "(II)Z"⟩
abbrev cX11_isAlive : ByteArray := prog_13_method_48_code
def yX11_isAlive : MethodName := ⟨RX11, "isAlive", "(II)Z"⟩
abbrev cX11_walk : ByteArray := prog_13_method_49_code
def yX11_walk : MethodName := ⟨RX11, "walk", "(II)I"⟩
abbrev cX11_goes : ByteArray := prog_13_method_50_code
def yX11_goes : MethodName := ⟨RX11, "goes", "(II)Z"⟩
abbrev cX11_measure : ByteArray := prog_13_method_51_code
def yX11_measure : MethodName := ⟨RX11, "measure", "(I)V"⟩
abbrev cX11_rootFor : ByteArray := prog_13_method_52_code
def yX11_rootFor : MethodName := ⟨RX11, "rootFor", "()I"⟩
abbrev cX11_meant : ByteArray := prog_13_method_53_code
def yX11_meant : MethodName := ⟨RX11, "meant", "(I)Z"⟩
abbrev cX11_why : ByteArray := prog_13_method_54_code
def yX11_why : MethodName := ⟨RX11, "why", "(II)I"⟩
abbrev cX11_dead : ByteArray := prog_13_method_55_code
def yX11_dead : MethodName := ⟨RX11, "dead", "(I)I"⟩
abbrev cX11_marksMeant : ByteArray := prog_13_method_56_code
def yX11_marksMeant : MethodName := ⟨RX11, "marksMeant", "()V"⟩
abbrev cX11_audit : ByteArray := prog_13_method_57_code
def yX11_audit : MethodName := ⟨RX11, "audit", "(II)I"⟩
abbrev cX11_status : ByteArray := prog_13_method_58_code
def yX11_status : MethodName := ⟨RX11, "status", "(I)I"⟩
def RJ9 : String := "java/lang/Math"
def TJ9 : u_T := fun k => match k with
  | _ => ("", "", "", false)
def tyJ9 : Nat → FieldType := fun k => match k with
  | _ => .int
theorem nmJ9 : ∀ a, a < 0 → ∀ b, b < 0 → a ≠ b → (TJ9 a).2.1 ≠ (TJ9 b).2.1 := by decide +kernel
theorem tyJ9_ok : ∀ k, k < 0 → parseFieldDescriptor (TJ9 k).2.2.1 = some (tyJ9 k) := by decide +kernel
abbrev cJ9_max_7cf53 : ByteArray := prog_14_method_65_code
def yJ9_max_7cf53 : MethodName := ⟨RJ9, "max", "(II)I"⟩
abbrev cJ9_min_7cf53 : ByteArray := prog_14_method_69_code
def yJ9_min_7cf53 : MethodName := ⟨RJ9, "min", "(II)I"⟩
def RJ10 : String := "java/lang/System"
def TJ10 : u_T := fun k => match k with
  | _ => ("", "", "", false)
def tyJ10 : Nat → FieldType := fun k => match k with
  | _ => .int
theorem nmJ10 : ∀ a, a < 0 → ∀ b, b < 0 → a ≠ b → (TJ10 a).2.1 ≠ (TJ10 b).2.1 := by decide +kernel
theorem tyJ10_ok : ∀ k, k < 0 → parseFieldDescriptor (TJ10 k).2.2.1 = some (tyJ10 k) := by decide +kernel
def RL : String := "FarHoldLaw"
abbrev cL_law : ByteArray := code
def yL_law : MethodName := ⟨RL, "law", "([I)Z"⟩
abbrev vwCl : List vw_C := [(RX0, TX0, 10), (RX1, TX1, 5), (RX2, TX2, 2), (RX3, TX3, 3), (RX4, TX4, 2), (RX5, TX5, 11), (RX6, TX6, 2), (RX7, TX7, 2), (RX8, TX8, 3), (RX9, TX9, 11), (RX10, TX10, 13), (RX11, TX11, 50)]
end
section
/-! A heap by typed functions: what an address holds, by the kind of its cell. Kinds 0 to 11: the objects of vwCl; 12 ints, 13 longs, 14 booleans, 15 to 19 arrays of references. -/
abbrev Hz : Type := (Nat → Nat → Int32) × (Nat → Nat → Int64) × (Nat → Nat → Option Nat) × (Nat → Nat) × (Nat → Nat) × Nat
abbrev zI (h : Hz) : Nat → Nat → Int32 := h.1
abbrev zL (h : Hz) : Nat → Nat → Int64 := h.2.1
abbrev zP (h : Hz) : Nat → Nat → Option Nat := h.2.2.1
abbrev zT (h : Hz) : Nat → Nat := h.2.2.2.1
abbrev zN (h : Hz) : Nat → Nat := h.2.2.2.2.1
abbrev zs (h : Hz) : Nat := h.2.2.2.2.2
def zu {α : Type} (f : Nat → Nat → α) (a k : Nat) (v : α) : Nat → Nat → α := fun b j => if b = a ∧ j = k then v else f b j
theorem zu_off {α : Type} {f : Nat → Nat → α} {a k b : Nat} {v : α} (h : b ≠ a) : zu f a k v b = f b := by
  funext j
  simp [zu, h]
theorem zu_at {α : Type} {f : Nat → Nat → α} {a k : Nat} {v : α} : zu f a k v a = fun j => if j = k then v else f a j := by
  funext j
  simp [zu]
def zwI (a k : Nat) (v : Int32) (h : Hz) : Hz := (zu h.1 a k v, h.2)
def zwL (a k : Nat) (v : Int64) (h : Hz) : Hz := (h.1, zu h.2.1 a k v, h.2.2)
def zwP (a k : Nat) (v : Option Nat) (h : Hz) : Hz := (h.1, h.2.1, zu h.2.2.1 a k v, h.2.2.2)
/-- a new cell of kind t and length n at the heap's end -/
def znew (t n : Nat) (h : Hz) : Hz := (va_up h.1 (zs h) (fun _ => 0), va_up h.2.1 (zs h) (fun _ => 0), va_up h.2.2.1 (zs h) (fun _ => none), va_up (zT h) (zs h) t, va_up (zN h) (zs h) n, zs h + 1)
/-- the fields: how many, which are references -/
def nF (c : Nat) : Nat := match c with
  | 0 => 10
  | 1 => 5
  | 2 => 2
  | 3 => 3
  | 4 => 2
  | 5 => 11
  | 6 => 2
  | 7 => 2
  | 8 => 3
  | 9 => 11
  | 10 => 13
  | _ => 50
def rF (c : Nat) : List Nat := match c with
  | 0 => [3, 5, 7]
  | 1 => [0, 1, 2, 3]
  | 2 => [0]
  | 3 => [0, 1]
  | 4 => [1]
  | 5 => [3, 4, 6]
  | 6 => [0]
  | 7 => [0]
  | 8 => [0, 1]
  | 9 => [1, 2, 3, 4, 5]
  | 10 => [0, 1, 2, 3, 4, 5, 6, 7, 8, 9]
  | _ => (List.range 50).filter (fun k => !(k == 9 || k == 24 || k == 25 || k == 29 || k == 33 || k == 46))
def isR (c k : Nat) : Bool := (rF c).contains k
def fv (h : Hz) (a c k : Nat) : Value := if isR c k = true then va_rf (zP h a k) else .int (zI h a k)
def zF (h : Hz) (a : Nat) : List Value := (List.range (nF (zT h a))).map (fv h a (zT h a))
def zE (cy : Nat → ClassId) (h : Hz) (a : Nat) : va_E :=
  if zT h a < 12 then .inr (zT h a, zF h a)
  else if zT h a = 13 then .inl (cy 1, zN h a, .inr (.inl (zL h a)))
  else if zT h a < 15 then .inl (cy (zT h a - 12), zN h a, .inl (zI h a))
  else .inl (cy (zT h a - 12), zN h a, .inr (.inr (.inr (.inr (zP h a)))))
/-- the heap is as the functions say, at every address that has a kind -/
def zW (A : Nat → Prop) (cy : Nat → ClassId) (D : va_G) (h : Hz) (H : Heap) : Prop := H.size = zs h ∧ ∀ a : Nat, zT h a < 20 → A a ∧ a < zs h ∧ va_at D vwCl (a, zE cy h a) H
abbrev zty (cy : Nat → ClassId) : List (ClassId × FieldType) := [(cy 0, .int), (cy 1, .long), (cy 2, .boolean), (cy 3, .object "FarHold$Letter"), (cy 4, .object "FarHold$Row"), (cy 5, .object "FarHold$Thing"), (cy 6, .object "FarHold$WaitingName"), (cy 7, .object "FarHold$Walk")]
abbrev zK (D : va_G) (cy : Nat → ClassId) (U : State) : Prop := va_K D vwCl (zty cy) U
/-- links to the constructors of nest mates -/
def zNest (U : State) : Prop := va_Nw (.methodLinkNest RX10 9 yX6_init RX10) U ∧ va_Nw (.methodLinkNest RX10 18 yX2_init RX10) U ∧ va_Nw (.methodLinkNest RX10 25 yX7_init RX10) U ∧ va_Nw (.methodLinkNest RX10 48 yX3_init RX10) U ∧ va_Nw (.methodLinkNest RX10 58 yX1_init RX10) U ∧ va_Nw (.methodLinkNest RX1 11 yX3_init RX10) U
theorem zNest.warm {s U : State} (hW : s.WarmedH U.vm) (h : zNest s) : zNest U := ⟨h.1.warmM hW, h.2.1.warmM hW, h.2.2.1.warmM hW, h.2.2.2.1.warmM hW, h.2.2.2.2.1.warmM hW, h.2.2.2.2.2.warmM hW⟩
theorem zNest.same {u U : State} (h : u.vm = U.vm) (hz : zNest u) : zNest U := ⟨hz.1.same rfl h, hz.2.1.same rfl h, hz.2.2.1.same rfl h, hz.2.2.2.1.same rfl h, hz.2.2.2.2.1.same rfl h, hz.2.2.2.2.2.same rfl h⟩
/-- a contract's start, and its end -/
def zS (A : Nat → Prop) (D : va_G) (cy : Nat → ClassId) (h : Hz) (U : State) : Prop := zW A cy D h U.heap ∧ zK D cy U ∧ zNest U ∧ ∀ q : Nat, U.heap.size ≤ q → A q
def zB (A : Nat → Prop) (D : va_G) (cy : Nat → ClassId) (h : Hz) (U : State) : Prop := zW A cy D h U.heap
theorem zS_blind (A : Nat → Prop) (D : va_G) (cy : Nat → ClassId) (h : Hz) (av : List Value) : FrameBlind (va_Pc av (zS A D cy h)) := by
  intro a U g mk q
  obtain ⟨q0, q1, q2, q3, q4⟩ := q
  exact ⟨q0, q1, va_K.moved (u := U) (U := U.calling g mk a) (Vm.Alike.refl U.vm) q2, q3.same (U := U.calling g mk a) rfl, q4⟩
/-- what a method's body stands on -/
def zX (A : Nat → Prop) (D : va_G) (cy : Nat → ClassId) (p : Program) (s : State) (m : MethodId) (args : Array Value) (c : Code) (cc : ByteArray) (own : String) (nL : Nat) : Prop :=
  p.tables.exec = Jvm.exec ∧ c.code = cc ∧ (∀ w ∈ wT, w.before args s = true) ∧ s.vm.findClass own = some m.cls ∧ zK D cy s ∧ c.maxLocals = nL ∧ zNest s ∧ ∀ q : Nat, s.heap.size ≤ q → A q
/-- a kind of objects: its names, its words -/
def zC (ci : Nat) (C : String) (T : u_T) (N : Nat) (ty : Nat → FieldType) : Prop := vwCl[ci]? = some (C, T, N) ∧ (∀ w ∈ u_ws C T N, w ∈ wT) ∧ ci < 12 ∧ nF ci = N ∧ (∀ k, k < N → parseFieldDescriptor (T k).2.2.1 = some (ty k)) ∧ (∀ a, a < N → ∀ b, b < N → a ≠ b → (T a).2.1 ≠ (T b).2.1)
/-! the operations -/
def gI (c k a : Nat) (h : Hz) : Option Int32 := if zT h a = c then some (zI h a k) else none
def gP (c k a : Nat) (h : Hz) : Option (Option Nat) := if zT h a = c then some (zP h a k) else none
def pI (c k a : Nat) (v : Int32) (h : Hz) : Option Hz := if zT h a = c then some (zwI a k v h) else none
def pZ (c k a : Nat) (v : Int32) (h : Hz) : Option Hz := if zT h a = c ∧ (v = 0 ∨ v = 1) then some (zwI a k v h) else none
def pP (c k a : Nat) (v : Option Nat) (h : Hz) : Option Hz := if zT h a = c then some (zwP a k v h) else none
def xI (t a : Nat) (i : Int32) (h : Hz) : Option Int32 := if zT h a = t ∧ ¬ (i < 0 ∨ zN h a ≤ i.toNatClampNeg) then some (zI h a i.toNatClampNeg) else none
def yI (a : Nat) (i v : Int32) (h : Hz) : Option Hz := if zT h a = 12 ∧ ¬ (i < 0 ∨ zN h a ≤ i.toNatClampNeg) then some (zwI a i.toNatClampNeg v h) else none
def yZ (a : Nat) (i v : Int32) (h : Hz) : Option Hz := if zT h a = 14 ∧ ¬ (i < 0 ∨ zN h a ≤ i.toNatClampNeg) then some (zwI a i.toNatClampNeg (vp_nar .boolean v) h) else none
def xL (a : Nat) (i : Int32) (h : Hz) : Option Int64 := if zT h a = 13 ∧ ¬ (i < 0 ∨ zN h a ≤ i.toNatClampNeg) then some (zL h a i.toNatClampNeg) else none
def yL (a : Nat) (i : Int32) (v : Int64) (h : Hz) : Option Hz := if zT h a = 13 ∧ ¬ (i < 0 ∨ zN h a ≤ i.toNatClampNeg) then some (zwL a i.toNatClampNeg v h) else none
def xP (t a : Nat) (i : Int32) (h : Hz) : Option (Option Nat) := if zT h a = t ∧ ¬ (i < 0 ∨ zN h a ≤ i.toNatClampNeg) then some (zP h a i.toNatClampNeg) else none
def yP (t ce a : Nat) (i : Int32) (v : Option Nat) (h : Hz) : Option Hz := if zT h a = t ∧ ¬ (i < 0 ∨ zN h a ≤ i.toNatClampNeg) ∧ v.all (fun b => zT h b == ce) = true then some (zwP a i.toNatClampNeg v h) else none
def xN (t a : Nat) (h : Hz) : Option Int32 := if zT h a = t then some (Int32.ofNat (zN h a)) else none
def nO (c : Nat) (h : Hz) : Option (Nat × Hz) := some (zs h, znew c 0 h)
def nA (t B : Nat) (n : Int32) (h : Hz) : Option (Nat × Hz) := if ¬ n < 0 ∧ n.toNatClampNeg ≤ B then some (zs h, znew t n.toNatClampNeg h) else none
/-- System.arraycopy of longs -/
def cL (a0 : Nat) (sp : Int32) (a : Nat) (dp n : Int32) (h : Hz) : Option Hz :=
  if zT h a0 = 13 ∧ zT h a = 13 ∧ ¬ sp < 0 ∧ ¬ dp < 0 ∧ ¬ n < 0 ∧ sp.toNatClampNeg + n.toNatClampNeg ≤ zN h a0 ∧ dp.toNatClampNeg + n.toNatClampNeg ≤ zN h a then some (h.1, va_up h.2.1 a (va_cpy (zL h a0) (zL h a) sp.toNatClampNeg dp.toNatClampNeg n.toNatClampNeg), h.2.2) else none
def tg (c a : Nat) (h : Hz) : Option Nat := if zT h a = c then some a else none
def b1 {α β : Type} (x : Option α) (k : α → Option β) : Option β := x.bind k
def b2 {α β : Type} (x : Option (α × Hz)) (k : α → Hz → Option β) : Option β := x.bind fun q => k q.1 q.2
def oe {β : Type} (r : Option Nat) (a : Option β) (b : Nat → Option β) : Option β := match r with
  | none => a
  | some x => b x
theorem b1_some {α β : Type} {x : Option α} {k : α → Option β} {y : β} (h : b1 x k = some y) : ∃ a, x = some a ∧ k a = some y := by
  cases x with
  | none => cases h
  | some a => exact ⟨a, rfl, h⟩
theorem b2_some {α β : Type} {x : Option (α × Hz)} {k : α → Hz → Option β} {y : β} (h : b2 x k = some y) : ∃ a s, x = some (a, s) ∧ k a s = some y := by
  cases x with
  | none => cases h
  | some a => exact ⟨a.1, a.2, rfl, h⟩
theorem oe_n {β : Type} {a : Option β} {b : Nat → Option β} {y : β} (h : oe none a b = some y) : a = some y := h
theorem oe_s {β : Type} {a : Option β} {b : Nat → Option β} {y : β} {x : Nat} (h : oe (some x) a b = some y) : b x = some y := h
theorem it_t {c : Prop} {d : Decidable c} {β : Type} {a b : Option β} {y : β} (h : (if c then a else b) = some y) (hc : c) : a = some y := by rwa [if_pos hc] at h
theorem it_f {c : Prop} {d : Decidable c} {β : Type} {a b : Option β} {y : β} (h : (if c then a else b) = some y) (hc : ¬ c) : b = some y := by rwa [if_neg hc] at h
theorem it_s {c : Prop} {d : Decidable c} {β : Type} {a : Option β} {y : β} (h : (if c then a else none) = some y) : c ∧ a = some y := by
  by_cases hc : c
  · exact ⟨hc, by rwa [if_pos hc] at h⟩
  · rw [if_neg hc] at h
    cases h
theorem it_v {c : Prop} {d : Decidable c} {β : Type} {a y : β} (h : (if c then some a else none) = some y) : c ∧ a = y := ⟨(it_s h).1, Option.some.inj (it_s h).2⟩
/-! the heap's rows -/
theorem zE_obj {cy : Nat → ClassId} {h : Hz} {a c : Nat} (ht : zT h a = c) (hc : c < 12) : zE cy h a = .inr (c, zF h a) := by
  subst ht
  simp only [zE, if_pos hc]
theorem zF_get {h : Hz} {a c k : Nat} (ht : zT h a = c) (hk : k < nF c) : (zF h a)[k]? = some (fv h a c k) := by
  subst ht
  simp [zF, hk]
theorem zF_len {h : Hz} {a c : Nat} (ht : zT h a = c) : (zF h a).length = nF c := by
  subst ht
  simp [zF]
theorem zE_int {cy : Nat → ClassId} {h : Hz} {a : Nat} (ht : zT h a = 12) : zE cy h a = .inl (cy 0, zN h a, .inl (zI h a)) := by simp [zE, ht]
theorem zE_bool {cy : Nat → ClassId} {h : Hz} {a : Nat} (ht : zT h a = 14) : zE cy h a = .inl (cy 2, zN h a, .inl (zI h a)) := by simp [zE, ht]
theorem zE_long {cy : Nat → ClassId} {h : Hz} {a : Nat} (ht : zT h a = 13) : zE cy h a = .inl (cy 1, zN h a, .inr (.inl (zL h a))) := by simp [zE, ht]
theorem zE_ref {cy : Nat → ClassId} {h : Hz} {a t : Nat} (ht : zT h a = t) (h1 : 15 ≤ t) : zE cy h a = .inl (cy (t - 12), zN h a, .inr (.inr (.inr (.inr (zP h a))))) := by
  subst ht
  simp only [zE, if_neg (show ¬ zT h a < 12 by omega), if_neg (show ¬ zT h a = 13 by omega), if_neg (show ¬ zT h a < 15 by omega)]
def zOff (a : Nat) (h h' : Hz) : Prop := h'.2.2.2 = h.2.2.2 ∧ ∀ b, b ≠ a → zI h' b = zI h b ∧ zL h' b = zL h b ∧ zP h' b = zP h b
theorem zE_off {cy : Nat → ClassId} {a b : Nat} {h h' : Hz} (ho : zOff a h h') (hb : b ≠ a) : zE cy h' b = zE cy h b := by
  obtain ⟨h1, h2⟩ := ho
  obtain ⟨e1, e2, e3⟩ := h2 b hb
  have eT : zT h' b = zT h b := by simp only [zT, h1]
  have eN : zN h' b = zN h b := by simp only [zN, h1]
  have hf : zF h' b = zF h b := by
    simp only [zF, eT]
    apply List.map_congr_left
    intro k _
    simp only [fv, e1, e3]
  simp only [zE, hf, eT, eN, e1, e2, e3]
theorem zW_upd {A : Nat → Prop} {cy : Nat → ClassId} {D : va_G} {a : Nat} {h h' : Hz} {H H' : Heap} (hW : zW A cy D h H) (ho : zOff a h h') (hz : H'.size = H.size) (hq : ∀ q : Nat, q ≠ a → H'[q]? = H[q]?) (hat : va_at D vwCl (a, zE cy h' a) H') : zW A cy D h' H' := by
  obtain ⟨h1, h2⟩ := hW
  refine ⟨by rw [hz, h1]; show zs h = zs h'; simp only [zs]; rw [ho.1], fun b hb => ?_⟩
  have hb' : zT h b < 20 := by
    have : zT h' b = zT h b := by simp only [zT]; rw [ho.1]
    omega
  obtain ⟨g1, g2, g3⟩ := h2 b hb'
  refine ⟨g1, by show b < zs h'; simp only [zs]; rw [ho.1]; exact g2, ?_⟩
  by_cases e : b = a
  · subst e
    exact hat
  · rw [zE_off ho e]
    exact g3.kept (hq b e)
theorem zwI_off (a k : Nat) (v : Int32) (h : Hz) : zOff a h (zwI a k v h) := ⟨rfl, fun b hb => ⟨zu_off hb, rfl, rfl⟩⟩
theorem zwL_off (a k : Nat) (v : Int64) (h : Hz) : zOff a h (zwL a k v h) := ⟨rfl, fun b hb => ⟨rfl, zu_off hb, rfl⟩⟩
theorem zwP_off (a k : Nat) (v : Option Nat) (h : Hz) : zOff a h (zwP a k v h) := ⟨rfl, fun b hb => ⟨rfl, rfl, zu_off hb⟩⟩
theorem zF_wI {h : Hz} {a c k : Nat} (v : Int32) (ht : zT h a = c) (hr : isR c k = false) : zF (zwI a k v h) a = (zF h a).set k (.int v) := by
  subst ht
  apply List.ext_getElem?
  intro j
  simp only [zF, List.getElem?_set, List.length_map, List.length_range]
  by_cases hj : j < nF (zT h a)
  · by_cases e : k = j
    · subst e
      simp [zwI, zI, zP, zT, zN, zs, hj, fv, hr, zu_at]
    · simp [zwI, zI, zP, zT, zN, zs, hj, e, fv, zu_at, Ne.symm e]
  · by_cases e : k = j
    · subst e
      simp [zwI, zT, hj]
    · simp [zwI, zT, hj, e]
theorem zF_wP {h : Hz} {a c k : Nat} (v : Option Nat) (ht : zT h a = c) (hr : isR c k = true) : zF (zwP a k v h) a = (zF h a).set k (va_rf v) := by
  subst ht
  apply List.ext_getElem?
  intro j
  simp only [zF, List.getElem?_set, List.length_map, List.length_range]
  by_cases hj : j < nF (zT h a)
  · by_cases e : k = j
    · subst e
      simp [zwP, zI, zP, zT, zN, zs, hj, fv, hr, zu_at]
    · simp [zwP, zI, zP, zT, zN, zs, hj, e, fv, zu_at, Ne.symm e]
  · by_cases e : k = j
    · subst e
      simp [zwP, zT, hj]
    · simp [zwP, zT, hj, e]
theorem znew_at {h : Hz} {t n b : Nat} (hb : b ≠ zs h) (cy : Nat → ClassId) : zE cy (znew t n h) b = zE cy h b ∧ zT (znew t n h) b = zT h b := by
  have e0 : zT (znew t n h) b = zT h b := va_up_ne _ _ hb
  have e1 : zI (znew t n h) b = zI h b := va_up_ne _ _ hb
  have e2 : zL (znew t n h) b = zL h b := va_up_ne _ _ hb
  have e3 : zP (znew t n h) b = zP h b := va_up_ne _ _ hb
  have e4 : zN (znew t n h) b = zN h b := va_up_ne _ _ hb
  have hf : zF (znew t n h) b = zF h b := by
    simp only [zF, e0]
    apply List.map_congr_left
    intro k _
    simp only [fv, e1, e3]
  refine ⟨?_, e0⟩
  simp only [zE, hf, e0, e1, e2, e3, e4]
theorem zW_new {A : Nat → Prop} {cy : Nat → ClassId} {D : va_G} {t n : Nat} {h : Hz} {H H' : Heap} (hW : zW A cy D h H) (hA : A H.size) (hz : H'.size = H.size + 1) (hq : ∀ q : Nat, q < H.size → H'[q]? = H[q]?) (hat : va_at D vwCl (zs h, zE cy (znew t n h) (zs h)) H') : zW A cy D (znew t n h) H' := by
  obtain ⟨h1, h2⟩ := hW
  refine ⟨by rw [hz, h1]; rfl, fun b hb => ?_⟩
  by_cases e : b = zs h
  · subst e
    exact ⟨by rw [← h1]; exact hA, by show zs h < zs h + 1; omega, hat⟩
  · obtain ⟨e1, e2⟩ := znew_at (t := t) (n := n) e cy
    rw [e2] at hb
    obtain ⟨g1, g2, g3⟩ := h2 b hb
    refine ⟨g1, by show b < zs h + 1; omega, ?_⟩
    rw [e1]
    exact g3.kept (hq b (by omega))
end
section
/-! rows of the machine over the typed heap -/
section ZR
variable {p : Program} {l : Launch} {e : Env} {R : Room} {s : State} {m : MethodId} {args : Array Value} {below : List Frame} {meth : Method} {c : Code} {H H0 : Heap} {locs : List Loc} {cells slots : Nat} {Q : State → Prop}
variable {cc : ByteArray} {pc nL : Nat} {ls : Array Slot} {rest : List Value} {A : Nat → Prop} {D : va_G} {cy : Nat → ClassId} {h h' : Hz} {own : String}
theorem zP_one {a : Nat} {x : va_E} (hat : va_at D vwCl (a, x) H) : va_P D vwCl [(a, x)] H := by
  intro k q hq
  match k, hq with
  | 0, hq => cases hq; exact hat
  | k + 1, hq => simp at hq
/-- what an object's cell is -/
theorem z_obj {ci a N : Nat} {C : String} {T : u_T} {ty : Nat → FieldType} (hW : zW A cy D h H) (hT : zT h a = ci) (hC : zC ci C T N ty) : A a ∧ a < zs h ∧ va_at D vwCl (a, .inr (ci, zF h a)) H := by
  obtain ⟨g1, g2, g3⟩ := hW.2 a (by rw [hT]; exact Nat.lt_trans hC.2.2.1 (by decide))
  rw [zE_obj hT hC.2.2.1] at g3
  exact ⟨g1, g2, g3⟩
theorem z_get {ci k a N index : Nat} {C : String} {T : u_T} {ty : Nat → FieldType} {v : Value} (X : zX A D cy p s m args c cc own nL) (hW : zW A cy D h H) (hC : zC ci C T N ty) (hk : k < N) (hT : zT h a = ci) (hv : fv h a ci k = v) (hl : Cond.fieldLink own index (T k).1 (T k).2.1 (T k).2.2.1 ∈ wT) (hdg : decode cc pc = .ok (.getfield index, 3))
    (kk : W p l e R s m args below meth c H locs cells slots Q (F0 m (pc + 3) ls (v :: rest))) : W p l e R s m args below meth c H locs cells slots Q (F0 m pc ls (.ref a :: rest)) := by
  obtain ⟨hx, hb, hts, hown, hK, -⟩ := X
  obtain ⟨-, -, g3⟩ := z_obj hW hT hC
  refine va_get (D := D) (ci := ci) (v := v) (C := C) (T := T) (N := N) hx hb hts hC.2.1 hown hK (zP_one g3) 0 rfl hC.1 k hk (hts _ hl) (fun _ h9 => h9) ?_ hdg kk
  rw [zF_get hT (by rw [hC.2.2.2.1]; exact hk), hv]
theorem z_getI {ci k a N index : Nat} {C : String} {T : u_T} {ty : Nat → FieldType} {x : Int32} (X : zX A D cy p s m args c cc own nL) (hW : zW A cy D h H) (hg : gI ci k a h = some x) (hC : zC ci C T N ty) (hk : k < N) (hr : isR ci k = false) (hl : Cond.fieldLink own index (T k).1 (T k).2.1 (T k).2.2.1 ∈ wT) (hdg : decode cc pc = .ok (.getfield index, 3))
    (kk : W p l e R s m args below meth c H locs cells slots Q (F0 m (pc + 3) ls (.int x :: rest))) : W p l e R s m args below meth c H locs cells slots Q (F0 m pc ls (.ref a :: rest)) := by
  obtain ⟨hT, hx⟩ := it_v hg
  exact z_get X hW hC hk hT (by simp [fv, hr, hx]) hl hdg kk
theorem z_getP {ci k a N index : Nat} {C : String} {T : u_T} {ty : Nat → FieldType} {x : Option Nat} (X : zX A D cy p s m args c cc own nL) (hW : zW A cy D h H) (hg : gP ci k a h = some x) (hC : zC ci C T N ty) (hk : k < N) (hr : isR ci k = true) (hl : Cond.fieldLink own index (T k).1 (T k).2.1 (T k).2.2.1 ∈ wT) (hdg : decode cc pc = .ok (.getfield index, 3))
    (kk : W p l e R s m args below meth c H locs cells slots Q (F0 m (pc + 3) ls (va_rf x :: rest))) : W p l e R s m args below meth c H locs cells slots Q (F0 m pc ls (.ref a :: rest)) := by
  obtain ⟨hT, hx⟩ := it_v hg
  exact z_get X hW hC hk hT (by simp [fv, hr, hx]) hl hdg kk
/-- putfield: the heap behind it -/
theorem z_put {ci k a N index : Nat} {C : String} {T : u_T} {ty : Nat → FieldType} {v : Value} (X : zX A D cy p s m args c cc own nL) (hW : zW A cy D h H) (hS : va_S A H0 H locs) (hC : zC ci C T N ty) (hk : k < N) (hT : zT h a = ci) (ho : zOff a h h') (hF : zF h' a = (zF h a).set k v) (hn : narrow (ty k) v = v) (hfit : fits (ty k) v = true) (hfin : (T k).2.2.2 = false ∨ ((T k).2.2.2 = true ∧ meth.name = "<init>" ∧ (T k).1 = own)) (hl : Cond.fieldLink own index (T k).1 (T k).2.1 (T k).2.2.1 ∈ wT) (hdg : decode cc pc = .ok (.putfield index, 3))
    (kk : ∀ (H1 : Heap) (locs1 : List Loc), zW A cy D h' H1 → va_S A H0 H1 locs1 → W p l e R s m args below meth c H1 locs1 cells slots Q (F0 m (pc + 3) ls rest)) : W p l e R s m args below meth c H locs cells slots Q (F0 m pc ls (v :: .ref a :: rest)) := by
  obtain ⟨hx, hb, hts, hown, hK, -⟩ := X
  obtain ⟨gA, glt, gat⟩ := z_obj hW hT hC
  obtain ⟨hc, hin, hci, hnF, hty, hnm⟩ := hC
  have hap := va_apart (own := own) (D := D) (cl := vwCl) (tys := zty cy) hts hin ty hty hnm hK hc
  obtain ⟨r, h1, cell, q1, q2, q3, q4⟩ := gat
  have hr : r = (C, T, N) := Option.some.inj (h1.symm.trans hc)
  subst hr
  obtain ⟨hSl, hfc, kC, hkC, hkind⟩ := hK.1 ci _ hc
  obtain ⟨cf, kf, fi, f, hi, hsl⟩ := hSl k hk
  have hlay := hts _ (hin _ (u_in_lay hk))
  have hst := (u_facts hfc hkC (u_lays hts hin hk) hi).1
  have hlen : k < (zF h a).length := by rw [zF_len hT, hnF]; exact hk
  have fin : ∀ (H' : Heap), H'[a]? = some (cell.setSlot f.slot v) → H'.size = H.size → (∀ q : Nat, q ≠ a → H'[q]? = H[q]?) → W p l e R s m args below meth c H' (locs ++ [⟨a, f.slot⟩]) cells slots Q (F0 m (pc + 3) ls rest) := by
    intro H' e1 e2 e3
    rw [hsl] at e1 ⊢
    refine kk H' _ (zW_upd hW ho e2 e3 ?_) (hS.put e2 e3 gA)
    have hT' : zT h' a = ci := by rw [← hT]; simp only [zT, ho.1]
    rw [zE_obj hT' hci, hF]
    exact ⟨_, hc, t_OB.to (V := updV (vp_V (zF h a)) k v) ⟨_, e1, q2, q3, t_set q4 hap hk v⟩ (fun j _ => vp_updV_set hlen v j)⟩
  rcases hfin with hfin | ⟨hfin, hin2, hdecl⟩
  · unfold u_lay at hlay
    rw [if_neg (by rw [hfin]; decide)] at hlay
    have h6 := u_store hfc hkC hkind hlay hi (hty k hk) hn hfit
    exact W.putK hx hb (f := f) ⟨hown, hts _ hl, ⟨_, _, _, hi⟩, hst⟩ (by rw [q2]; exact h6) q1 q3 (by rw [hsl]; exact k2_hasslot (q4 k hk)) rfl rfl hdg fin
  · unfold u_lay at hlay
    rw [if_pos hfin] at hlay
    have hcf : m.cls = cf := by
      obtain ⟨_, _, c', _, _, _, -, -, hf', -, -, -, hown2, -⟩ := Cond.laysFinal_spec hlay
      have e1 : c' = cf := by have := hi.symm.trans hf'; simp at this; exact this.1.symm
      rw [hdecl] at hown2
      rw [← e1]; exact Option.some.inj (hown.symm.trans hown2)
    have h6 := u_fits hfc hkC hkind (Or.inr hlay) hi (hty k hk) hn hfit
    exact W.putFinK hx hb hown (hts _ hl) hi hst hcf hin2 (by rw [q2]; exact h6) q1 q3 (by rw [hsl]; exact k2_hasslot (q4 k hk)) rfl rfl hdg fin
end ZR
end
section
section ZR2
variable {p : Program} {l : Launch} {e : Env} {R : Room} {s : State} {m : MethodId} {args : Array Value} {below : List Frame} {meth : Method} {c : Code} {H H0 : Heap} {locs : List Loc} {cells slots : Nat} {Q : State → Prop}
variable {cc : ByteArray} {pc nL : Nat} {ls : Array Slot} {rest : List Value} {A : Nat → Prop} {D : va_G} {cy : Nat → ClassId} {h h' : Hz} {own : String}
theorem z_putI {ci k a N index : Nat} {C : String} {T : u_T} {ty : Nat → FieldType} {v : Int32} (X : zX A D cy p s m args c cc own nL) (hW : zW A cy D h H) (hS : va_S A H0 H locs) (hg : pI ci k a v h = some h') (hC : zC ci C T N ty) (hk : k < N) (hr : isR ci k = false) (hty : ty k = .int) (hfin : (T k).2.2.2 = false ∨ ((T k).2.2.2 = true ∧ meth.name = "<init>" ∧ (T k).1 = own)) (hl : Cond.fieldLink own index (T k).1 (T k).2.1 (T k).2.2.1 ∈ wT) (hdg : decode cc pc = .ok (.putfield index, 3))
    (kk : ∀ (H1 : Heap) (locs1 : List Loc), zW A cy D h' H1 → va_S A H0 H1 locs1 → W p l e R s m args below meth c H1 locs1 cells slots Q (F0 m (pc + 3) ls rest)) : W p l e R s m args below meth c H locs cells slots Q (F0 m pc ls (.int v :: .ref a :: rest)) := by
  obtain ⟨hT, rfl⟩ := it_v hg
  exact z_put X hW hS hC hk hT (zwI_off a k v h) (zF_wI v hT hr) (by rw [hty]; rfl) (by rw [hty]; rfl) hfin hl hdg kk
theorem z_putZ {ci k a N index : Nat} {C : String} {T : u_T} {ty : Nat → FieldType} {v : Int32} (X : zX A D cy p s m args c cc own nL) (hW : zW A cy D h H) (hS : va_S A H0 H locs) (hg : pZ ci k a v h = some h') (hC : zC ci C T N ty) (hk : k < N) (hr : isR ci k = false) (hty : ty k = .boolean) (hfin : (T k).2.2.2 = false ∨ ((T k).2.2.2 = true ∧ meth.name = "<init>" ∧ (T k).1 = own)) (hl : Cond.fieldLink own index (T k).1 (T k).2.1 (T k).2.2.1 ∈ wT) (hdg : decode cc pc = .ok (.putfield index, 3))
    (kk : ∀ (H1 : Heap) (locs1 : List Loc), zW A cy D h' H1 → va_S A H0 H1 locs1 → W p l e R s m args below meth c H1 locs1 cells slots Q (F0 m (pc + 3) ls rest)) : W p l e R s m args below meth c H locs cells slots Q (F0 m pc ls (.int v :: .ref a :: rest)) := by
  obtain ⟨⟨hT, hv⟩, rfl⟩ := it_v hg
  refine z_put X hW hS hC hk hT (zwI_off a k v h) (zF_wI v hT hr) ?_ ?_ hfin hl hdg kk
  · rw [hty]; rcases hv with rfl | rfl <;> rfl
  · rw [hty]; rcases hv with rfl | rfl <;> rfl
theorem z_putP {ci k a N index : Nat} {C : String} {T : u_T} {ty : Nat → FieldType} {v : Option Nat} (X : zX A D cy p s m args c cc own nL) (hW : zW A cy D h H) (hS : va_S A H0 H locs) (hg : pP ci k a v h = some h') (hC : zC ci C T N ty) (hk : k < N) (hr : isR ci k = true) (hty : (∃ n, ty k = .object n) ∨ ∃ t, ty k = .array t) (hfin : (T k).2.2.2 = false ∨ ((T k).2.2.2 = true ∧ meth.name = "<init>" ∧ (T k).1 = own)) (hl : Cond.fieldLink own index (T k).1 (T k).2.1 (T k).2.2.1 ∈ wT) (hdg : decode cc pc = .ok (.putfield index, 3))
    (kk : ∀ (H1 : Heap) (locs1 : List Loc), zW A cy D h' H1 → va_S A H0 H1 locs1 → W p l e R s m args below meth c H1 locs1 cells slots Q (F0 m (pc + 3) ls rest)) : W p l e R s m args below meth c H locs cells slots Q (F0 m pc ls (va_rf v :: .ref a :: rest)) := by
  obtain ⟨hT, rfl⟩ := it_v hg
  refine z_put X hW hS hC hk hT (zwP_off a k v h) (zF_wP v hT hr) ?_ ?_ hfin hl hdg kk
  · rcases hty with ⟨n, e1⟩ | ⟨n, e1⟩ <;> rw [e1] <;> cases v <;> rfl
  · rcases hty with ⟨n, e1⟩ | ⟨n, e1⟩ <;> rw [e1] <;> cases v <;> rfl
/-! arrays -/
theorem z_arr {a : Nat} {x : va_E} {t : Nat} (hW : zW A cy D h H) (hT : zT h a = t) (ht : t < 20) (hE : zE cy h a = x) : A a ∧ a < zs h ∧ va_at D vwCl (a, x) H := by
  obtain ⟨g1, g2, g3⟩ := hW.2 a (by rw [hT]; exact ht)
  rw [hE] at g3
  exact ⟨g1, g2, g3⟩
theorem z_aldI {a : Nat} {i x : Int32} (X : zX A D cy p s m args c cc own nL) (hW : zW A cy D h H) (hg : xI 12 a i h = some x) (hdg : decode cc pc = .ok (.iaload, 1))
    (kk : W p l e R s m args below meth c H locs cells slots Q (F0 m (pc + 1) ls (.int x :: rest))) : W p l e R s m args below meth c H locs cells slots Q (F0 m pc ls (.int i :: .ref a :: rest)) := by
  obtain ⟨⟨hT, hin⟩, rfl⟩ := it_v hg
  obtain ⟨hx, hb, -, -, hK, -⟩ := X
  obtain ⟨-, -, g3⟩ := z_arr hW hT (by decide) (zE_int hT)
  exact va_iald hx hb hK (zP_one g3) 0 0 rfl rfl hin hdg kk
theorem z_aldZ {a : Nat} {i x : Int32} (X : zX A D cy p s m args c cc own nL) (hW : zW A cy D h H) (hg : xI 14 a i h = some x) (hdg : decode cc pc = .ok (.baload, 1))
    (kk : W p l e R s m args below meth c H locs cells slots Q (F0 m (pc + 1) ls (.int x :: rest))) : W p l e R s m args below meth c H locs cells slots Q (F0 m pc ls (.int i :: .ref a :: rest)) := by
  obtain ⟨⟨hT, hin⟩, rfl⟩ := it_v hg
  obtain ⟨hx, hb, -, -, hK, -⟩ := X
  obtain ⟨-, -, g3⟩ := z_arr hW hT (by decide) (zE_bool hT)
  exact va_zald hx hb hK (zP_one g3) 0 2 rfl rfl hin hdg kk
theorem z_aldL {a : Nat} {i : Int32} {x : Int64} (X : zX A D cy p s m args c cc own nL) (hW : zW A cy D h H) (hg : xL a i h = some x) (hdg : decode cc pc = .ok (.laload, 1))
    (kk : W p l e R s m args below meth c H locs cells slots Q (F0 m (pc + 1) ls (.long x :: rest))) : W p l e R s m args below meth c H locs cells slots Q (F0 m pc ls (.int i :: .ref a :: rest)) := by
  obtain ⟨⟨hT, hin⟩, rfl⟩ := it_v hg
  obtain ⟨hx, hb, -, -, hK, -⟩ := X
  obtain ⟨-, -, g3⟩ := z_arr hW hT (by decide) (zE_long hT)
  exact va_lald hx hb hK (zP_one g3) 0 1 rfl rfl hin hdg kk
/-- an array of references: which one, by the place in zty -/
theorem z_aldP {a t : Nat} {C : String} {i : Int32} {x : Option Nat} (X : zX A D cy p s m args c cc own nL) (hW : zW A cy D h H) (hg : xP t a i h = some x) (h1 : 15 ≤ t) (h2 : t < 20) (hty : (zty cy)[t - 12]? = some (cy (t - 12), .object C)) (hdg : decode cc pc = .ok (.aaload, 1))
    (kk : W p l e R s m args below meth c H locs cells slots Q (F0 m (pc + 1) ls (va_rf x :: rest))) : W p l e R s m args below meth c H locs cells slots Q (F0 m pc ls (.int i :: .ref a :: rest)) := by
  obtain ⟨⟨hT, hin⟩, rfl⟩ := it_v hg
  obtain ⟨hx, hb, -, -, hK, -⟩ := X
  obtain ⟨-, -, g3⟩ := z_arr hW hT h2 (zE_ref hT h1)
  exact va_aldq hx hb hK (zP_one g3) 0 (t - 12) rfl hty hin hdg kk
theorem zI_wI (a k : Nat) (v : Int32) (h : Hz) : zI (zwI a k v h) a = upd (zI h a) k v := by
  funext j
  show zu h.1 a k v a j = _
  rw [zu_at]
  rfl
theorem zL_wL (a k : Nat) (v : Int64) (h : Hz) : zL (zwL a k v h) a = vp_updL (zL h a) k v := by
  funext j
  show zu h.2.1 a k v a j = _
  rw [zu_at]
  rfl
theorem zP_wP (a k : Nat) (v : Option Nat) (h : Hz) : zP (zwP a k v h) a = va_up (zP h a) k v := by
  funext j
  show zu h.2.2.1 a k v a j = _
  rw [zu_at]
  rfl
/-- a store: from what the machine does at the cell to the heap behind it -/
theorem z_st {a j : Nat} {x : va_E} {H1 : Heap} (hW : zW A cy D h H) (hS : va_S A H0 H locs) (gA : A a) (ho : zOff a h h') (hz : H1.size = H.size) (oq : ∀ q : Nat, q ≠ a → H1[q]? = H[q]?) (hE : zE cy h' a = x) (hat : va_at D vwCl (a, x) H1) : zW A cy D h' H1 ∧ va_S A H0 H1 (locs ++ [⟨a, j⟩]) := by
  refine ⟨zW_upd hW ho hz oq ?_, hS.put hz oq gA⟩
  rw [hE]
  exact hat
theorem z_astI {a : Nat} {i v : Int32} (X : zX A D cy p s m args c cc own nL) (hW : zW A cy D h H) (hS : va_S A H0 H locs) (hg : yI a i v h = some h') (hdg : decode cc pc = .ok (.iastore, 1))
    (kk : ∀ (H1 : Heap) (locs1 : List Loc), zW A cy D h' H1 → va_S A H0 H1 locs1 → W p l e R s m args below meth c H1 locs1 cells slots Q (F0 m (pc + 1) ls rest)) : W p l e R s m args below meth c H locs cells slots Q (F0 m pc ls (.int v :: .int i :: .ref a :: rest)) := by
  obtain ⟨⟨hT, hin⟩, rfl⟩ := it_v hg
  obtain ⟨hx, hb, -, -, hK, -⟩ := X
  obtain ⟨gA, -, g3⟩ := z_arr hW hT (by decide) (zE_int hT)
  refine W.iast hx hb g3 ((hK.2 0 _ rfl).1 (zN h a) (fun j => .int (zI h a j))) (fun q => by cases q) (by show ¬ (i < 0 ∨ (arrV _ _ _).slots.size ≤ _); rw [arrV_size]; exact hin) rfl rfl hdg fun H1 e z oq => ?_
  obtain ⟨k1, k2⟩ := z_st (j := i.toNatClampNeg) (h' := zwI a i.toNatClampNeg v h) (H1 := H1) hW hS gA (zwI_off _ _ _ _) z oq (zE_int (cy := cy) (h := zwI a i.toNatClampNeg v h) hT) (by
    show H1[a]? = some (vp_cell _ _)
    rw [e, vp_cell_i, vp_cell_i, arrV_store, zI_wI]
    congr 2
    funext q
    by_cases hq : q = i.toNatClampNeg
    · subst hq
      simp [updV, upd]
    · simp [updV, upd, hq])
  exact kk H1 _ k1 k2
theorem z_astZ {a : Nat} {i v : Int32} (X : zX A D cy p s m args c cc own nL) (hW : zW A cy D h H) (hS : va_S A H0 H locs) (hg : yZ a i v h = some h') (hdg : decode cc pc = .ok (.bastore, 1))
    (kk : ∀ (H1 : Heap) (locs1 : List Loc), zW A cy D h' H1 → va_S A H0 H1 locs1 → W p l e R s m args below meth c H1 locs1 cells slots Q (F0 m (pc + 1) ls rest)) : W p l e R s m args below meth c H locs cells slots Q (F0 m pc ls (.int v :: .int i :: .ref a :: rest)) := by
  obtain ⟨⟨hT, hin⟩, rfl⟩ := it_v hg
  obtain ⟨hx, hb, -, -, hK, -⟩ := X
  obtain ⟨gA, -, g3⟩ := z_arr hW hT (by decide) (zE_bool hT)
  refine W.zast hx hb g3 ((hK.2 2 _ rfl).1 (zN h a) (fun j => .int (zI h a j))) (fun q => by cases q) (by show ¬ (i < 0 ∨ (arrV _ _ _).slots.size ≤ _); rw [arrV_size]; exact hin) rfl rfl hdg fun H1 e z oq => ?_
  obtain ⟨k1, k2⟩ := z_st (j := i.toNatClampNeg) (h' := zwI a i.toNatClampNeg (vp_nar .boolean v) h) (H1 := H1) hW hS gA (zwI_off _ _ _ _) z oq (zE_bool (cy := cy) (h := zwI a i.toNatClampNeg (vp_nar .boolean v) h) hT) (by
    show H1[a]? = some (vp_cell _ _)
    rw [e, vp_cell_i, vp_cell_i, arrV_store, zI_wI]
    congr 2
    funext q
    by_cases hq : q = i.toNatClampNeg
    · subst hq
      simp [updV, upd, vp_nar]
      try rfl
    · simp [updV, upd, hq])
  exact kk H1 _ k1 k2
theorem z_astL {a : Nat} {i : Int32} {v : Int64} (X : zX A D cy p s m args c cc own nL) (hW : zW A cy D h H) (hS : va_S A H0 H locs) (hg : yL a i v h = some h') (hdg : decode cc pc = .ok (.lastore, 1))
    (kk : ∀ (H1 : Heap) (locs1 : List Loc), zW A cy D h' H1 → va_S A H0 H1 locs1 → W p l e R s m args below meth c H1 locs1 cells slots Q (F0 m (pc + 1) ls rest)) : W p l e R s m args below meth c H locs cells slots Q (F0 m pc ls (.long v :: .int i :: .ref a :: rest)) := by
  obtain ⟨⟨hT, hin⟩, rfl⟩ := it_v hg
  obtain ⟨hx, hb, -, -, hK, -⟩ := X
  obtain ⟨gA, -, g3⟩ := z_arr hW hT (by decide) (zE_long hT)
  refine W.last hx hb g3 ((hK.2 1 _ rfl).1 (zN h a) (fun j => .long (zL h a j))) (fun q => by cases q) (by show ¬ (i < 0 ∨ (arrV _ _ _).slots.size ≤ _); rw [arrV_size]; exact hin) rfl rfl hdg fun H1 e z oq => ?_
  obtain ⟨k1, k2⟩ := z_st (j := i.toNatClampNeg) (h' := zwL a i.toNatClampNeg v h) (H1 := H1) hW hS gA (zwL_off _ _ _ _) z oq (zE_long (cy := cy) (h := zwL a i.toNatClampNeg v h) hT) (by
    show H1[a]? = some (vp_cell _ _)
    rw [e, vp_cell_l, vp_cell_l, arrV_store, zL_wL]
    congr 2
    funext q
    by_cases hq : q = i.toNatClampNeg
    · subst hq
      simp [updV, vp_updL]
    · simp [updV, vp_updL, hq])
  exact kk H1 _ k1 k2
theorem z_astP {a t ce N : Nat} {i : Int32} {v : Option Nat} {C : String} {T : u_T} {ty : Nat → FieldType} (X : zX A D cy p s m args c cc own nL) (hW : zW A cy D h H) (hS : va_S A H0 H locs) (hg : yP t ce a i v h = some h') (h1 : 15 ≤ t) (h2 : t < 20) (hC : zC ce C T N ty) (hty : (zty cy)[t - 12]? = some (cy (t - 12), .object C)) (hdg : decode cc pc = .ok (.aastore, 1))
    (kk : ∀ (H1 : Heap) (locs1 : List Loc), zW A cy D h' H1 → va_S A H0 H1 locs1 → W p l e R s m args below meth c H1 locs1 cells slots Q (F0 m (pc + 1) ls rest)) : W p l e R s m args below meth c H locs cells slots Q (F0 m pc ls (va_rf v :: .int i :: .ref a :: rest)) := by
  obtain ⟨⟨hT, hin, hv⟩, rfl⟩ := it_v hg
  obtain ⟨hx, hb, -, -, hK, -⟩ := X
  obtain ⟨gA, -, g3⟩ := z_arr hW hT h2 (zE_ref hT h1)
  have hlt : i.toNatClampNeg < zN h a := Nat.not_le.mp fun q => hin (Or.inr q)
  have h0 : ¬ i < 0 := fun q => hin (Or.inl q)
  have fin : ∀ H1 : Heap, H1[a]? = some ((vp_cell (cy (t - 12)) (zN h a, .inr (.inr (.inr (.inr (zP h a)))))).setSlot i.toNatClampNeg (va_rf v)) → H1.size = H.size → (∀ q : Nat, q ≠ a → H1[q]? = H[q]?) → W p l e R s m args below meth c H1 (locs ++ [⟨a, i.toNatClampNeg⟩]) cells slots Q (F0 m (pc + 1) ls rest) := by
    intro H1 e z oq
    obtain ⟨k1, k2⟩ := z_st (j := i.toNatClampNeg) (h' := zwP a i.toNatClampNeg v h) (H1 := H1) hW hS gA (zwP_off _ _ _ _) z oq (zE_ref (cy := cy) (h := zwP a i.toNatClampNeg v h) hT h1) (by
      show H1[a]? = some (vp_cell _ _)
      rw [e, vp_cell_q, vp_cell_q, arrV_store, zP_wP]
      congr 2
      funext q
      by_cases hq : q = i.toNatClampNeg
      · subst hq
        simp [updV, va_up]
      · simp [updV, va_up, hq])
    exact kk H1 _ k1 k2
  cases v with
  | none => exact va_WaastN (C := C) hx hb g3 ((hK.2 (t - 12) _ hty).1 (zN h a) (fun j => va_rf (zP h a j))) (fun h => by cases h) (by show ¬ (i < 0 ∨ (arrV _ _ _).slots.size ≤ _); rw [arrV_size]; exact hin) rfl rfl hdg fin
  | some b =>
    have hb2 : zT h b = ce := by simpa using hv
    obtain ⟨-, -, gb⟩ := z_obj hW hb2 hC
    obtain ⟨r', hr', cellV, k1, k2, k3, -⟩ := gb
    have hcls := (hK.1 ce _ hC.1).2
    obtain ⟨kA, comp, m1, m2, m3, -⟩ := (hK.2 (t - 12) _ hty).2
    have hcomp : comp = D.1 ce := Option.some.inj (m3.symm.trans hcls.1)
    subst hcomp
    obtain ⟨kC, hkC, -⟩ := hcls.2
    exact W.aast hx hb g3 (fun q h => by cases h) (fun h => by cases h) m1 m2 rfl hkC ⟨h0, by show _ < (arrV _ _ _).slots.size; rw [arrV_size]; exact hlt⟩ k1 (fun q h => by rw [k3] at h; cases h) (by rw [k2]; exact hkC) (by rw [k2]; exact va_assign hcls) rfl rfl hdg fin
theorem z_alenI {a : Nat} {x : Int32} (X : zX A D cy p s m args c cc own nL) (hW : zW A cy D h H) (hg : xN 12 a h = some x) (hdg : decode cc pc = .ok (.arraylength, 1))
    (kk : W p l e R s m args below meth c H locs cells slots Q (F0 m (pc + 1) ls (.int x :: rest))) : W p l e R s m args below meth c H locs cells slots Q (F0 m pc ls (.ref a :: rest)) := by
  obtain ⟨hT, rfl⟩ := it_v hg
  obtain ⟨hx, hb, -, -, hK, -⟩ := X
  obtain ⟨-, -, g3⟩ := z_arr hW hT (by decide) (zE_int hT)
  exact va_alen hx hb hK (zP_one g3) 0 0 rfl rfl rfl hdg kk
theorem z_alenZ {a : Nat} {x : Int32} (X : zX A D cy p s m args c cc own nL) (hW : zW A cy D h H) (hg : xN 14 a h = some x) (hdg : decode cc pc = .ok (.arraylength, 1))
    (kk : W p l e R s m args below meth c H locs cells slots Q (F0 m (pc + 1) ls (.int x :: rest))) : W p l e R s m args below meth c H locs cells slots Q (F0 m pc ls (.ref a :: rest)) := by
  obtain ⟨hT, rfl⟩ := it_v hg
  obtain ⟨hx, hb, -, -, hK, -⟩ := X
  obtain ⟨-, -, g3⟩ := z_arr hW hT (by decide) (zE_bool hT)
  exact va_alen hx hb hK (zP_one g3) 0 2 rfl rfl rfl hdg kk
theorem z_alenL {a : Nat} {x : Int32} (X : zX A D cy p s m args c cc own nL) (hW : zW A cy D h H) (hg : xN 13 a h = some x) (hdg : decode cc pc = .ok (.arraylength, 1))
    (kk : W p l e R s m args below meth c H locs cells slots Q (F0 m (pc + 1) ls (.int x :: rest))) : W p l e R s m args below meth c H locs cells slots Q (F0 m pc ls (.ref a :: rest)) := by
  obtain ⟨hT, rfl⟩ := it_v hg
  obtain ⟨hx, hb, -, -, hK, -⟩ := X
  obtain ⟨-, -, g3⟩ := z_arr hW hT (by decide) (zE_long hT)
  exact va_alen hx hb hK (zP_one g3) 0 1 rfl rfl rfl hdg kk
theorem z_alenP {a t : Nat} {C : String} {x : Int32} (X : zX A D cy p s m args c cc own nL) (hW : zW A cy D h H) (hg : xN t a h = some x) (h1 : 15 ≤ t) (h2 : t < 20) (hty : (zty cy)[t - 12]? = some (cy (t - 12), .object C)) (hdg : decode cc pc = .ok (.arraylength, 1))
    (kk : W p l e R s m args below meth c H locs cells slots Q (F0 m (pc + 1) ls (.int x :: rest))) : W p l e R s m args below meth c H locs cells slots Q (F0 m pc ls (.ref a :: rest)) := by
  obtain ⟨hT, rfl⟩ := it_v hg
  obtain ⟨hx, hb, -, -, hK, -⟩ := X
  obtain ⟨-, -, g3⟩ := z_arr hW hT h2 (zE_ref hT h1)
  exact va_alen hx hb hK (zP_one g3) 0 (t - 12) rfl hty rfl hdg kk
end ZR2
end
section
section ZR3
variable {p : Program} {l : Launch} {e : Env} {R : Room} {s : State} {m : MethodId} {args : Array Value} {below : List Frame} {meth : Method} {c : Code} {H H0 : Heap} {locs : List Loc} {cells slots : Nat} {Q : State → Prop}
variable {cc : ByteArray} {pc nL : Nat} {ls : Array Slot} {rest : List Value} {A : Nat → Prop} {D : va_G} {cy : Nat → ClassId} {h h' : Hz} {own : String}
theorem zF_new {t n : Nat} {h : Hz} {ty : Nat → FieldType} (hty : ∀ k, k < nF t → defaultValue (ty k) = if isR t k = true then .null else .int 0) (j : Nat) (hj : j < nF t) : defaultValue (ty j) = vp_V (zF (znew t n h) (zs h)) j := by
  have hT : zT (znew t n h) (zs h) = t := va_up_self _ _ _
  have e1 : zI (znew t n h) (zs h) = fun _ => 0 := va_up_self _ _ _
  have e3 : zP (znew t n h) (zs h) = fun _ => none := va_up_self _ _ _
  rw [hty j hj]
  simp only [vp_V, List.getD_eq_getElem?_getD, zF_get hT hj, fv, e1, e3, Option.getD_some]
  rfl
theorem z_new {ci a N index : Nat} {C : String} {T : u_T} {ty : Nat → FieldType} (X : zX A D cy p s m args c cc own nL) (hW : zW A cy D h H) (hS : va_S A s.heap H locs) (hg : nO ci h = some (a, h')) (hC : zC ci C T N ty) (hd : ∀ k, k < nF ci → defaultValue (ty k) = if isR ci k = true then .null else .int 0) (h1 : Cond.classLink own index C ∈ wT) (h2 : Cond.instantiable C N ∈ wT) (h3 : Cond.initialized C ∈ wT) (hdg : decode cc pc = .ok (.new index, 3)) (hcells : cells + 1 ≤ R.cells) (hslots : slots + N ≤ R.slots)
    (kk : ∀ (H1 : Heap), zW A cy D h' H1 → va_S A s.heap H1 locs → W p l e R s m args below meth c H1 locs (cells + 1) (slots + N) Q (F0 m (pc + 3) ls (.ref a :: rest))) : W p l e R s m args below meth c H locs cells slots Q (F0 m pc ls rest) := by
  cases hg
  obtain ⟨hx, hb, hts, hown, hK, -, -, hA⟩ := X
  obtain ⟨hc, hin, hci, hnF, hty, hnm⟩ := hC
  have hKn := hK.1 ci _ hc
  have hA1 : A H.size := hA _ hS.1
  refine W.newcK hx hb hown (hts _ h1) (hts _ h2) (hts _ h3) rfl hdg hcells hslots hKn.2.1 hW.1 fun H1 kC hkC e1 z1 o1 => ?_
  have hq : ∀ q : Nat, q < H.size → H1[q]? = H[q]? := fun q hq => o1 q (by rw [← hW.1]; exact hq)
  refine kk H1 (zW_new hW hA1 (by rw [z1, hW.1]) hq ?_) ⟨Nat.le_trans hS.1 (by rw [z1, hW.1]; omega), fun x g1 g2 => (hq x (Nat.lt_of_lt_of_le g1 hS.1)).trans (hS.2.1 x g1 g2), hS.2.2⟩
  have hT : zT (znew ci 0 h) (zs h) = ci := va_up_self _ _ _
  rw [zE_obj hT hci]
  exact ⟨_, hc, (u_born ty hts hin hKn hkC e1 hty).to (fun j hj => zF_new hd j (by rw [hnF]; exact hj))⟩
theorem z_newP {t a B index : Nat} {C : String} {n : Int32} (X : zX A D cy p s m args c cc own nL) (hW : zW A cy D h H) (hS : va_S A s.heap H locs) (hg : nA t B n h = some (a, h')) (g1 : 15 ≤ t) (g2 : t < 20) (hty : (zty cy)[t - 12]? = some (cy (t - 12), .object C)) (h1 : Cond.classLink own index C ∈ wT) (h2 : Cond.arrayOver (.object C) ∈ wT) (hB : B * 4 ≤ 536870912) (hdg : decode cc pc = .ok (.anewarray index, 3)) (hcells : cells + 1 ≤ R.cells) (hslots : slots + B ≤ R.slots)
    (kk : ∀ (H1 : Heap), zW A cy D h' H1 → va_S A s.heap H1 locs → W p l e R s m args below meth c H1 locs (cells + 1) (slots + B) Q (F0 m (pc + 3) ls (.ref a :: rest))) : W p l e R s m args below meth c H locs cells slots Q (F0 m pc ls (.int n :: rest)) := by
  obtain ⟨⟨hn, hle⟩, hg⟩ := it_v hg
  cases hg
  obtain ⟨hx, hb, hts, hown, hK, -, -, hA⟩ := X
  have hA1 : A H.size := hA _ hS.1
  refine W.anew hx hb hown (hts _ h1) (hts _ h2) rfl hdg rfl hn (by omega) hcells (by omega) fun cA kA comp f1 f2 f3 f4 => ?_
  obtain ⟨kA', comp', m1, m2, m3, m4⟩ := (hK.2 (t - 12) _ hty).2
  have hcA : cA = cy (t - 12) := Option.some.inj (f1.symm.trans m4)
  subst hcA
  generalize hH1 : H.push ({ cls := cy (t - 12), slots := Array.replicate n.toNatClampNeg .null, vm := .none } : Cell) = H1
  have z1 : H1.size = H.size + 1 := by rw [← hH1, Array.size_push]
  have e1 : H1[H.size]? = some (arrV (cy (t - 12)) n.toNatClampNeg (fun _ => .null)) := by rw [← hH1, Array.getElem?_push_size, ← arrV_new]
  have hq : ∀ q : Nat, q < H.size → H1[q]? = H[q]? := fun q hq => by rw [← hH1, Array.getElem?_push, if_neg (Nat.ne_of_lt hq)]
  rw [hW.1]
  refine W.widen (Nat.le_refl _) (Nat.add_le_add_left hle slots) (kk H1 (zW_new hW hA1 z1 hq ?_) ⟨Nat.le_trans hS.1 (by rw [z1]; omega), fun x g1 g2 => (hq x (Nat.lt_of_lt_of_le g1 hS.1)).trans (hS.2.1 x g1 g2), hS.2.2⟩)
  have hT : zT (znew t n.toNatClampNeg h) (zs h) = t := va_up_self _ _ _
  have e3 : zP (znew t n.toNatClampNeg h) (zs h) = fun _ => none := va_up_self _ _ _
  have e4 : zN (znew t n.toNatClampNeg h) (zs h) = n.toNatClampNeg := va_up_self _ _ _
  rw [zE_ref hT g1, e3, e4]
  show H1[zs h]? = some (vp_cell _ _)
  rw [vp_cell_q, ← hW.1]
  exact e1
/-- an array of numbers: ints, longs, booleans -/
theorem z_newN {t a B : Nat} {n : Int32} {atype : ArrayType} {ty : FieldType} (X : zX A D cy p s m args c cc own nL) (hW : zW A cy D h H) (hS : va_S A s.heap H locs) (hg : nA t B n h = some (a, h')) (ht : t = 12 ∧ atype = .int ∨ t = 13 ∧ atype = .long ∨ t = 14 ∧ atype = .boolean) (h1 : Cond.arrayClass (newarray.typeOf atype) ∈ wT) (hB : B * 8 ≤ 536870912) (hdg : decode cc pc = .ok (.newarray atype, 2)) (hcells : cells + 1 ≤ R.cells) (hslots : slots + B ≤ R.slots)
    (kk : ∀ (H1 : Heap), zW A cy D h' H1 → va_S A s.heap H1 locs → W p l e R s m args below meth c H1 locs (cells + 1) (slots + B) Q (F0 m (pc + 2) ls (.ref a :: rest))) : W p l e R s m args below meth c H locs cells slots Q (F0 m pc ls (.int n :: rest)) := by
  obtain ⟨⟨hn, hle⟩, hg⟩ := it_v hg
  cases hg
  obtain ⟨hx, hb, hts, hown, hK, -, -, hA⟩ := X
  have hA1 : A H.size := hA _ hS.1
  have hbyt : n.toNatClampNeg * componentBytes (newarray.typeOf atype) ≤ 536870912 := by
    rcases ht with ⟨-, rfl⟩ | ⟨-, rfl⟩ | ⟨-, rfl⟩ <;> simp [newarray.typeOf, componentBytes] <;> omega
  refine va_newaK hx hb (hts _ h1) rfl hdg rfl hn rfl hbyt hcells (by omega) hW.1 fun H1 cA e1 z1 o1 hAr hNm => ?_
  have hq : ∀ q : Nat, q < H.size → H1[q]? = H[q]? := fun q hq => o1 q (by rw [← hW.1]; exact hq)
  refine W.widen (Nat.le_refl _) (Nat.add_le_add_left hle slots) (kk H1 (zW_new hW hA1 (by rw [z1, hW.1]) hq ?_) ⟨Nat.le_trans hS.1 (by rw [z1, hW.1]; omega), fun x g1 g2 => (hq x (Nat.lt_of_lt_of_le g1 hS.1)).trans (hS.2.1 x g1 g2), hS.2.2⟩)
  have hT : zT (znew t n.toNatClampNeg h) (zs h) = t := va_up_self _ _ _
  have eI : zI (znew t n.toNatClampNeg h) (zs h) = fun _ => 0 := va_up_self _ _ _
  have eL : zL (znew t n.toNatClampNeg h) (zs h) = fun _ => 0 := va_up_self _ _ _
  have e4 : zN (znew t n.toNatClampNeg h) (zs h) = n.toNatClampNeg := va_up_self _ _ _
  rcases ht with ⟨rfl, rfl⟩ | ⟨rfl, rfl⟩ | ⟨rfl, rfl⟩
  · have hcA : cA = cy 0 := Option.some.inj (hNm.symm.trans (hK.2 0 _ rfl).2)
    subst hcA
    rw [zE_int hT, eI, e4]
    exact e1
  · have hcA : cA = cy 1 := Option.some.inj (hNm.symm.trans (hK.2 1 _ rfl).2)
    subst hcA
    rw [zE_long hT, eL, e4]
    exact e1
  · have hcA : cA = cy 2 := Option.some.inj (hNm.symm.trans (hK.2 2 _ rfl).2)
    subst hcA
    rw [zE_bool hT, eI, e4]
    exact e1
/-! references in locals and on the stack -/
theorem z_aload_n {k : Fin 4} {i : Nat} {x : Option Nat} (hx : p.tables.exec = Jvm.exec) (hb : c.code = cc) (hdg : decode cc pc = .ok (.aload_n k, 1)) (hi : (k : Nat) = i) (hl : ls[i]? = some (.val (va_rf x)))
    (kk : W p l e R s m args below meth c H locs cells slots Q (F0 m (pc + 1) ls (va_rf x :: rest))) : W p l e R s m args below meth c H locs cells slots Q (F0 m pc ls rest) := by
  cases x with
  | none => exact lv_aload_nN hx hb hdg hi hl kk
  | some a => exact lv_aload_n hx hb hdg hi hl kk
theorem z_aload {i : Nat} {x : Option Nat} (hx : p.tables.exec = Jvm.exec) (hb : c.code = cc) (hdg : decode cc pc = .ok (.aload i, 2)) (hl : ls[i]? = some (.val (va_rf x)))
    (kk : W p l e R s m args below meth c H locs cells slots Q (F0 m (pc + 2) ls (va_rf x :: rest))) : W p l e R s m args below meth c H locs cells slots Q (F0 m pc ls rest) := by
  cases x with
  | none => exact lv_aloadN hx hb hdg hl kk
  | some a => exact lv_aload hx hb hdg hl kk
theorem va_rf_cat (x : Option Nat) : (va_rf x).category = 1 := by cases x <;> rfl
theorem z_astore_n {k : Fin 4} {i nL : Nat} {x : Option Nat} {lv lv' : List (Nat × Value)} (hx : p.tables.exec = Jvm.exec) (hb : c.code = cc) (hdg : decode cc pc = .ok (.astore_n k, 1)) (hi : (k : Nat) = i) (h : lv_has ls nL lv) (hn : i < nL) (hl : (i, va_rf x) :: lv.filter (fun q => !(q.1 == i) && !(q.1 + 1 == i && q.2.category == 2)) = lv')
    (kk : ∀ ls' : Array Slot, lv_has ls' nL lv' → W p l e R s m args below meth c H locs cells slots Q (F0 m (pc + 1) ls' rest)) : W p l e R s m args below meth c H locs cells slots Q (F0 m pc ls (va_rf x :: rest)) := by
  cases x with
  | none => exact lv_astore_nN hx hb hdg hi h hn hl kk
  | some a => exact lv_astore_n hx hb hdg hi h hn hl kk
theorem z_astore {i nL : Nat} {x : Option Nat} {lv lv' : List (Nat × Value)} (hx : p.tables.exec = Jvm.exec) (hb : c.code = cc) (hdg : decode cc pc = .ok (.astore i, 2)) (h : lv_has ls nL lv) (hn : i < nL) (hl : (i, va_rf x) :: lv.filter (fun q => !(q.1 == i) && !(q.1 + 1 == i && q.2.category == 2)) = lv')
    (kk : ∀ ls' : Array Slot, lv_has ls' nL lv' → W p l e R s m args below meth c H locs cells slots Q (F0 m (pc + 2) ls' rest)) : W p l e R s m args below meth c H locs cells slots Q (F0 m pc ls (va_rf x :: rest)) := by
  cases x with
  | none => exact lv_astoreN hx hb hdg h hn hl kk
  | some a => exact lv_astore hx hb hdg h hn hl kk
/-- a boolean answer -/
def rz (v : Int32) (h : Hz) : Option (Int32 × Hz) := if v = 0 ∨ v = 1 then some (v, h) else none
/-- the end of a method -/
theorem z_eti {v r : Int32} {h0 : Hz} {mc ms : Nat} (X : zX A D cy p s m args c cc own nL) (hlk : meth.locks = false) (hr : meth.sig.returnType = some .int) (hW : zW A cy D h H) (hS : va_S A s.heap H locs) (hh : some (v, h) = some (r, h0)) (hc : cells ≤ mc) (hs : slots ≤ ms) (hdg : decode cc pc = .ok (.ireturn, 1)) :
    W p l e R s m args below meth c H locs cells slots (MQ below (va_Qi (fun r1 u => r1 = r ∧ u = h0) (zB A D cy) A) args s mc ms A) (F0 m pc ls [.int v]) := by
  cases hh
  obtain ⟨hx, hb, -⟩ := X
  refine W.widen hc hs ?_
  exact W.iret hx hb hr (fun t ht hW1 => ⟨⟨v, h, rfl, ⟨rfl, rfl⟩, by show zW A cy D h t.heap; rw [ht]; exact hW⟩, hS.F ht⟩) hS.2.2 hdg
theorem z_etz {v r : Int32} {h0 : Hz} {mc ms : Nat} (X : zX A D cy p s m args c cc own nL) (hlk : meth.locks = false) (hr : meth.sig.returnType = some .boolean) (hW : zW A cy D h H) (hS : va_S A s.heap H locs) (hh : rz v h = some (r, h0)) (hc : cells ≤ mc) (hs : slots ≤ ms) (hdg : decode cc pc = .ok (.ireturn, 1)) :
    W p l e R s m args below meth c H locs cells slots (MQ below (va_Qi (fun r1 u => r1 = r ∧ u = h0) (zB A D cy) A) args s mc ms A) (F0 m pc ls [.int v]) := by
  obtain ⟨hv, hh⟩ := it_v hh
  cases hh
  obtain ⟨hx, hb, -⟩ := X
  refine W.widen hc hs ?_
  exact W.zret hx hb hr (by rcases hv with rfl | rfl <;> rfl) (fun t ht hW1 => ⟨⟨v, h, rfl, ⟨rfl, rfl⟩, by show zW A cy D h t.heap; rw [ht]; exact hW⟩, hS.F ht⟩) hS.2.2 hdg
theorem z_etl {v r : Int64} {h0 : Hz} {mc ms : Nat} (X : zX A D cy p s m args c cc own nL) (hlk : meth.locks = false) (hr : meth.sig.returnType = some .long) (hW : zW A cy D h H) (hS : va_S A s.heap H locs) (hh : some (v, h) = some (r, h0)) (hc : cells ≤ mc) (hs : slots ≤ ms) (hdg : decode cc pc = .ok (.lreturn, 1)) :
    W p l e R s m args below meth c H locs cells slots (MQ below (va_Ql (fun r1 u => r1 = r ∧ u = h0) (zB A D cy) A) args s mc ms A) (F0 m pc ls [.long v]) := by
  cases hh
  obtain ⟨hx, hb, -⟩ := X
  refine W.widen hc hs ?_
  exact W.lret hx hb hr (fun t ht hW1 => ⟨⟨v, h, rfl, ⟨rfl, rfl⟩, by show zW A cy D h t.heap; rw [ht]; exact hW⟩, hS.F ht⟩) hS.2.2 hdg
theorem z_eta {v r : Option Nat} {h0 : Hz} {mc ms : Nat} {C : String} (X : zX A D cy p s m args c cc own nL) (hlk : meth.locks = false) (hr : meth.sig.returnType = some (.object C)) (hW : zW A cy D h H) (hS : va_S A s.heap H locs) (hh : some (v, h) = some (r, h0)) (hc : cells ≤ mc) (hs : slots ≤ ms) (hdg : decode cc pc = .ok (.areturn, 1)) :
    W p l e R s m args below meth c H locs cells slots (MQ below (va_Qq (fun r1 u => r1 = r ∧ u = h0) (zB A D cy) A) args s mc ms A) (F0 m pc ls [va_rf v]) := by
  cases hh
  obtain ⟨hx, hb, -⟩ := X
  refine W.widen hc hs ?_
  exact W.aret hx hb hr (Or.inl ⟨C, rfl⟩) (va_rf_or v) (fun t ht hW1 => ⟨⟨v, h, rfl, ⟨rfl, rfl⟩, by show zW A cy D h t.heap; rw [ht]; exact hW⟩, hS.F ht⟩) hS.2.2 hdg
theorem z_etv {r : Unit} {h0 : Hz} {mc ms : Nat} (X : zX A D cy p s m args c cc own nL) (hlk : meth.locks = false) (hr : meth.sig.returnType = none) (hW : zW A cy D h H) (hS : va_S A s.heap H locs) (hh : some ((), h) = some (r, h0)) (hc : cells ≤ mc) (hs : slots ≤ ms) (hdg : decode cc pc = .ok (.return_, 1)) :
    W p l e R s m args below meth c H locs cells slots (MQ below (va_Qv (fun u => u = h0) (zB A D cy) A) args s mc ms A) (F0 m pc ls []) := by
  cases hh
  obtain ⟨hx, hb, -⟩ := X
  refine W.widen hc hs ?_
  exact W.vret hx hb hr (fun t ht hW1 => ⟨⟨h, rfl, rfl, by show zW A cy D h t.heap; rw [ht]; exact hW⟩, hS.F ht⟩) hS.2.2 hdg
end ZR3
end
section
section ZR4
variable {p : Program} {l : Launch} {e : Env} {R : Room} {s : State} {m : MethodId} {args : Array Value} {below : List Frame} {meth : Method} {c : Code} {H : Heap} {locs : List Loc} {cells slots : Nat} {Q : State → Prop}
variable {cc : ByteArray} {pc nL : Nat} {ls : Array Slot} {rest st0 : List Value} {A : Nat → Prop} {D : va_G} {cy : Nat → ClassId} {h h' : Hz} {own : String}
variable {y : MethodName} {bytes : ByteArray} {maxL mc ms n index : Nat} {ret : Option FieldType} {rm : Room} {As : List Value}
/-- a method and the words of a call of it -/
def zYb (y : MethodName) (bytes : ByteArray) (maxL : Nat) (ret : Option FieldType) (n : Nat) : Prop := Cond.code y bytes maxL ret ∈ wT ∧ Cond.initialized y.cls ∈ wT ∧ y.cls ≠ "java/lang/invoke/MethodHandle" ∧ y.cls ≠ "java/lang/invoke/VarHandle" ∧ (parseMethodDescriptor y.desc).map (fun d => d.parameters.length) = some n
def zYv (y : MethodName) : Prop := Cond.instanceMethod y ∈ wT ∧ Cond.selects y.cls y y ∈ wT
theorem wT_good {w : Cond} (h : w ∈ wT) : goodWord w = true := (List.mem_filter.mp h).2
theorem zGood (hY : zYb y bytes maxL ret n) : GoodIn wT (Cond.code y bytes maxL ret :: wT) := by
  intro w hw
  rcases List.mem_cons.mp hw with rfl | hw
  · exact ⟨hY.1, good_of_word (wT_good hY.1)⟩
  · exact ⟨hw, good_of_word (wT_good hw)⟩
theorem zCallB (hts : ∀ w ∈ wT, w.before args s = true) (hY : zYb y bytes maxL ret n) (hl : Cond.methodLink own index y ∈ wT) (hrc : rm.cells = mc) (hrs : rm.slots = ms) (hR : rm.frames + 1 ≤ R.frames ∧ 8 + (maxL + 11) + rm.locals ≤ R.locals) : CallB R s args own index y bytes maxL ret (Cond.code y bytes maxL ret :: wT) rm mc ms n :=
  callB_of n hts (zGood hY) rfl hrc hrs (hts _ hY.2.1) (hts _ hl) hY.2.2 hR
/-- the start of a call, from the caller's heap -/
theorem zPre (X : zX A D cy p s m args c cc own nL) (hW : zW A cy D h H) (hS : va_S A s.heap H locs) (av : List Value) (U : State) (hU : U.heap = H) (hw : s.WarmedH U.vm) : va_Pc av (zS A D cy h) av.toArray U := by
  obtain ⟨-, -, -, -, hK, -, hN, hA⟩ := X
  exact ⟨rfl, by rw [hU]; exact hW, va_K.moved hw.alike hK, hN.warm hw, fun q hq => hA q (Nat.le_trans hS.1 (by rw [← hU]; exact hq))⟩
theorem z_callVi {r : Int32} {b ci N : Nat} {T : u_T} {ty : Nat → FieldType} (X : zX A D cy p s m args c cc own nL) (hW : zW A cy D h H) (hS : va_S A s.heap H locs) (hM : Met l y (Cond.code y bytes maxL ret :: wT) rm (va_Pc (.ref b :: As) (zS A D cy h)) (va_Qi (fun r1 u => r1 = r ∧ u = h') (zB A D cy) A) mc ms A) (hY : zYb y bytes maxL ret n) (hV : zYv y) (hl : Cond.methodLink own index y ∈ wT) (hT : zT h b = ci) (hC : zC ci y.cls T N ty) (hrc : rm.cells = mc) (hrs : rm.slots = ms) (hR : rm.frames + 1 ≤ R.frames ∧ 8 + (maxL + 11) + rm.locals ≤ R.locals) (hn : As.length = n) (hst : st0 = As.reverse ++ .ref b :: rest) (hro : (rest.map fun v => v.category).sum ≤ 8) (hsz : ls.size = nL) (hdg : decode cc pc = .ok (.invokevirtual index, 3)) (hf : cells + mc ≤ R.cells ∧ slots + ms ≤ R.slots)
    (kk : ∀ (H1 : Heap) (locs1 : List Loc), zW A cy D h' H1 → va_S A s.heap H1 locs1 → W p l e R s m args below meth c H1 locs1 (cells + mc) (slots + ms) Q (F0 m (pc + 3) ls (.int r :: rest))) : W p l e R s m args below meth c H locs cells slots Q (F0 m pc ls st0) := by
  obtain ⟨hx, hb, hts, hown, hK, hml, hN, hA⟩ := id X
  obtain ⟨-, -, g3⟩ := z_obj hW hT hC
  refine va_calli (va_runV (As := As) (rest := rest) (n := n) (C := y.cls) ⟨hx, hb, hml, hown, hts⟩ hM ⟨zCallB hts hY hl hrc hrs hR, hts _ hV.1, hts _ hV.2⟩ ⟨zS_blind _ _ _ _ _, va_recv hK (zP_one g3) hC.1 (q0 := 0) rfl, fun U hU hw => zPre X hW hS _ U hU hw⟩ rfl hn hsz hst (lv_room hro) hdg hf) hS (fun q _ hq => hq) (fun q hq => hq) (fun r1 u t H1 locs1 ht hvm hp hB hz hk hS1 => ?_)
  obtain ⟨rfl, rfl⟩ := hp
  exact kk H1 locs1 (by rw [← ht]; exact hB) hS1
theorem z_callVl {r : Int64} {b ci N : Nat} {T : u_T} {ty : Nat → FieldType} (X : zX A D cy p s m args c cc own nL) (hW : zW A cy D h H) (hS : va_S A s.heap H locs) (hM : Met l y (Cond.code y bytes maxL ret :: wT) rm (va_Pc (.ref b :: As) (zS A D cy h)) (va_Ql (fun r1 u => r1 = r ∧ u = h') (zB A D cy) A) mc ms A) (hY : zYb y bytes maxL ret n) (hV : zYv y) (hl : Cond.methodLink own index y ∈ wT) (hT : zT h b = ci) (hC : zC ci y.cls T N ty) (hrc : rm.cells = mc) (hrs : rm.slots = ms) (hR : rm.frames + 1 ≤ R.frames ∧ 8 + (maxL + 11) + rm.locals ≤ R.locals) (hn : As.length = n) (hst : st0 = As.reverse ++ .ref b :: rest) (hro : (rest.map fun v => v.category).sum ≤ 8) (hsz : ls.size = nL) (hdg : decode cc pc = .ok (.invokevirtual index, 3)) (hf : cells + mc ≤ R.cells ∧ slots + ms ≤ R.slots)
    (kk : ∀ (H1 : Heap) (locs1 : List Loc), zW A cy D h' H1 → va_S A s.heap H1 locs1 → W p l e R s m args below meth c H1 locs1 (cells + mc) (slots + ms) Q (F0 m (pc + 3) ls (.long r :: rest))) : W p l e R s m args below meth c H locs cells slots Q (F0 m pc ls st0) := by
  obtain ⟨hx, hb, hts, hown, hK, hml, hN, hA⟩ := id X
  obtain ⟨-, -, g3⟩ := z_obj hW hT hC
  refine va_calll (va_runV (As := As) (rest := rest) (n := n) (C := y.cls) ⟨hx, hb, hml, hown, hts⟩ hM ⟨zCallB hts hY hl hrc hrs hR, hts _ hV.1, hts _ hV.2⟩ ⟨zS_blind _ _ _ _ _, va_recv hK (zP_one g3) hC.1 (q0 := 0) rfl, fun U hU hw => zPre X hW hS _ U hU hw⟩ rfl hn hsz hst (lv_room hro) hdg hf) hS (fun q _ hq => hq) (fun q hq => hq) (fun r1 u t H1 locs1 ht hvm hp hB hz hk hS1 => ?_)
  obtain ⟨rfl, rfl⟩ := hp
  exact kk H1 locs1 (by rw [← ht]; exact hB) hS1
theorem z_callVq {r : Option Nat} {b ci N : Nat} {T : u_T} {ty : Nat → FieldType} (X : zX A D cy p s m args c cc own nL) (hW : zW A cy D h H) (hS : va_S A s.heap H locs) (hM : Met l y (Cond.code y bytes maxL ret :: wT) rm (va_Pc (.ref b :: As) (zS A D cy h)) (va_Qq (fun r1 u => r1 = r ∧ u = h') (zB A D cy) A) mc ms A) (hY : zYb y bytes maxL ret n) (hV : zYv y) (hl : Cond.methodLink own index y ∈ wT) (hT : zT h b = ci) (hC : zC ci y.cls T N ty) (hrc : rm.cells = mc) (hrs : rm.slots = ms) (hR : rm.frames + 1 ≤ R.frames ∧ 8 + (maxL + 11) + rm.locals ≤ R.locals) (hn : As.length = n) (hst : st0 = As.reverse ++ .ref b :: rest) (hro : (rest.map fun v => v.category).sum ≤ 8) (hsz : ls.size = nL) (hdg : decode cc pc = .ok (.invokevirtual index, 3)) (hf : cells + mc ≤ R.cells ∧ slots + ms ≤ R.slots)
    (kk : ∀ (H1 : Heap) (locs1 : List Loc), zW A cy D h' H1 → va_S A s.heap H1 locs1 → W p l e R s m args below meth c H1 locs1 (cells + mc) (slots + ms) Q (F0 m (pc + 3) ls (va_rf r :: rest))) : W p l e R s m args below meth c H locs cells slots Q (F0 m pc ls st0) := by
  obtain ⟨hx, hb, hts, hown, hK, hml, hN, hA⟩ := id X
  obtain ⟨-, -, g3⟩ := z_obj hW hT hC
  refine va_callq (va_runV (As := As) (rest := rest) (n := n) (C := y.cls) ⟨hx, hb, hml, hown, hts⟩ hM ⟨zCallB hts hY hl hrc hrs hR, hts _ hV.1, hts _ hV.2⟩ ⟨zS_blind _ _ _ _ _, va_recv hK (zP_one g3) hC.1 (q0 := 0) rfl, fun U hU hw => zPre X hW hS _ U hU hw⟩ rfl hn hsz hst (lv_room hro) hdg hf) hS (fun q _ hq => hq) (fun q hq => hq) (fun r1 u t H1 locs1 ht hvm hp hB hz hk hS1 => ?_)
  obtain ⟨rfl, rfl⟩ := hp
  exact kk H1 locs1 (by rw [← ht]; exact hB) hS1
theorem z_callVv {b ci N : Nat} {T : u_T} {ty : Nat → FieldType} (X : zX A D cy p s m args c cc own nL) (hW : zW A cy D h H) (hS : va_S A s.heap H locs) (hM : Met l y (Cond.code y bytes maxL ret :: wT) rm (va_Pc (.ref b :: As) (zS A D cy h)) (va_Qv (fun u => u = h') (zB A D cy) A) mc ms A) (hY : zYb y bytes maxL ret n) (hV : zYv y) (hl : Cond.methodLink own index y ∈ wT) (hT : zT h b = ci) (hC : zC ci y.cls T N ty) (hrc : rm.cells = mc) (hrs : rm.slots = ms) (hR : rm.frames + 1 ≤ R.frames ∧ 8 + (maxL + 11) + rm.locals ≤ R.locals) (hn : As.length = n) (hst : st0 = As.reverse ++ .ref b :: rest) (hro : (rest.map fun v => v.category).sum ≤ 8) (hsz : ls.size = nL) (hdg : decode cc pc = .ok (.invokevirtual index, 3)) (hf : cells + mc ≤ R.cells ∧ slots + ms ≤ R.slots)
    (kk : ∀ (H1 : Heap) (locs1 : List Loc), zW A cy D h' H1 → va_S A s.heap H1 locs1 → W p l e R s m args below meth c H1 locs1 (cells + mc) (slots + ms) Q (F0 m (pc + 3) ls (rest))) : W p l e R s m args below meth c H locs cells slots Q (F0 m pc ls st0) := by
  obtain ⟨hx, hb, hts, hown, hK, hml, hN, hA⟩ := id X
  obtain ⟨-, -, g3⟩ := z_obj hW hT hC
  refine va_callv (va_runV (As := As) (rest := rest) (n := n) (C := y.cls) ⟨hx, hb, hml, hown, hts⟩ hM ⟨zCallB hts hY hl hrc hrs hR, hts _ hV.1, hts _ hV.2⟩ ⟨zS_blind _ _ _ _ _, va_recv hK (zP_one g3) hC.1 (q0 := 0) rfl, fun U hU hw => zPre X hW hS _ U hU hw⟩ rfl hn hsz hst (lv_room hro) hdg hf) hS (fun q _ hq => hq) (fun q hq => hq) (fun u t H1 locs1 ht hvm hp hB hz hk hS1 => ?_)
  subst hp
  exact kk H1 locs1 (by rw [← ht]; exact hB) hS1
theorem z_callSi {r : Int32} (X : zX A D cy p s m args c cc own nL) (hW : zW A cy D h H) (hS : va_S A s.heap H locs) (hM : Met l y (Cond.code y bytes maxL ret :: wT) rm (va_Pc As (zS A D cy h)) (va_Qi (fun r1 u => r1 = r ∧ u = h') (zB A D cy) A) mc ms A) (hY : zYb y bytes maxL ret n) (hV : Cond.static y ∈ wT) (hl : Cond.methodLink own index y ∈ wT) (hrc : rm.cells = mc) (hrs : rm.slots = ms) (hR : rm.frames + 1 ≤ R.frames ∧ 8 + (maxL + 11) + rm.locals ≤ R.locals) (hn : As.length = n) (hst : st0 = As.reverse ++ rest) (hro : (rest.map fun v => v.category).sum ≤ 8) (hsz : ls.size = nL) (hdg : decode cc pc = .ok (.invokestatic index, 3)) (hf : cells + mc ≤ R.cells ∧ slots + ms ≤ R.slots)
    (kk : ∀ (H1 : Heap) (locs1 : List Loc), zW A cy D h' H1 → va_S A s.heap H1 locs1 → W p l e R s m args below meth c H1 locs1 (cells + mc) (slots + ms) Q (F0 m (pc + 3) ls (.int r :: rest))) : W p l e R s m args below meth c H locs cells slots Q (F0 m pc ls st0) := by
  obtain ⟨hx, hb, hts, hown, hK, hml, hN, hA⟩ := id X
  refine va_calli (va_runS (As := As) (rest := rest) (n := n) ⟨hx, hb, hml, hown, hts⟩ hM ⟨zCallB hts hY hl hrc hrs hR, hts _ hV⟩ ⟨zS_blind _ _ _ _ _, fun U hU hw => zPre X hW hS _ U hU hw⟩ rfl hn hsz hst (lv_room hro) hdg hf) hS (fun q _ hq => hq) (fun q hq => hq) (fun r1 u t H1 locs1 ht hvm hp hB hz hk hS1 => ?_)
  obtain ⟨rfl, rfl⟩ := hp
  exact kk H1 locs1 (by rw [← ht]; exact hB) hS1
theorem z_callSl {r : Int64} (X : zX A D cy p s m args c cc own nL) (hW : zW A cy D h H) (hS : va_S A s.heap H locs) (hM : Met l y (Cond.code y bytes maxL ret :: wT) rm (va_Pc As (zS A D cy h)) (va_Ql (fun r1 u => r1 = r ∧ u = h') (zB A D cy) A) mc ms A) (hY : zYb y bytes maxL ret n) (hV : Cond.static y ∈ wT) (hl : Cond.methodLink own index y ∈ wT) (hrc : rm.cells = mc) (hrs : rm.slots = ms) (hR : rm.frames + 1 ≤ R.frames ∧ 8 + (maxL + 11) + rm.locals ≤ R.locals) (hn : As.length = n) (hst : st0 = As.reverse ++ rest) (hro : (rest.map fun v => v.category).sum ≤ 8) (hsz : ls.size = nL) (hdg : decode cc pc = .ok (.invokestatic index, 3)) (hf : cells + mc ≤ R.cells ∧ slots + ms ≤ R.slots)
    (kk : ∀ (H1 : Heap) (locs1 : List Loc), zW A cy D h' H1 → va_S A s.heap H1 locs1 → W p l e R s m args below meth c H1 locs1 (cells + mc) (slots + ms) Q (F0 m (pc + 3) ls (.long r :: rest))) : W p l e R s m args below meth c H locs cells slots Q (F0 m pc ls st0) := by
  obtain ⟨hx, hb, hts, hown, hK, hml, hN, hA⟩ := id X
  refine va_calll (va_runS (As := As) (rest := rest) (n := n) ⟨hx, hb, hml, hown, hts⟩ hM ⟨zCallB hts hY hl hrc hrs hR, hts _ hV⟩ ⟨zS_blind _ _ _ _ _, fun U hU hw => zPre X hW hS _ U hU hw⟩ rfl hn hsz hst (lv_room hro) hdg hf) hS (fun q _ hq => hq) (fun q hq => hq) (fun r1 u t H1 locs1 ht hvm hp hB hz hk hS1 => ?_)
  obtain ⟨rfl, rfl⟩ := hp
  exact kk H1 locs1 (by rw [← ht]; exact hB) hS1
theorem z_callSq {r : Option Nat} (X : zX A D cy p s m args c cc own nL) (hW : zW A cy D h H) (hS : va_S A s.heap H locs) (hM : Met l y (Cond.code y bytes maxL ret :: wT) rm (va_Pc As (zS A D cy h)) (va_Qq (fun r1 u => r1 = r ∧ u = h') (zB A D cy) A) mc ms A) (hY : zYb y bytes maxL ret n) (hV : Cond.static y ∈ wT) (hl : Cond.methodLink own index y ∈ wT) (hrc : rm.cells = mc) (hrs : rm.slots = ms) (hR : rm.frames + 1 ≤ R.frames ∧ 8 + (maxL + 11) + rm.locals ≤ R.locals) (hn : As.length = n) (hst : st0 = As.reverse ++ rest) (hro : (rest.map fun v => v.category).sum ≤ 8) (hsz : ls.size = nL) (hdg : decode cc pc = .ok (.invokestatic index, 3)) (hf : cells + mc ≤ R.cells ∧ slots + ms ≤ R.slots)
    (kk : ∀ (H1 : Heap) (locs1 : List Loc), zW A cy D h' H1 → va_S A s.heap H1 locs1 → W p l e R s m args below meth c H1 locs1 (cells + mc) (slots + ms) Q (F0 m (pc + 3) ls (va_rf r :: rest))) : W p l e R s m args below meth c H locs cells slots Q (F0 m pc ls st0) := by
  obtain ⟨hx, hb, hts, hown, hK, hml, hN, hA⟩ := id X
  refine va_callq (va_runS (As := As) (rest := rest) (n := n) ⟨hx, hb, hml, hown, hts⟩ hM ⟨zCallB hts hY hl hrc hrs hR, hts _ hV⟩ ⟨zS_blind _ _ _ _ _, fun U hU hw => zPre X hW hS _ U hU hw⟩ rfl hn hsz hst (lv_room hro) hdg hf) hS (fun q _ hq => hq) (fun q hq => hq) (fun r1 u t H1 locs1 ht hvm hp hB hz hk hS1 => ?_)
  obtain ⟨rfl, rfl⟩ := hp
  exact kk H1 locs1 (by rw [← ht]; exact hB) hS1
theorem z_callSv (X : zX A D cy p s m args c cc own nL) (hW : zW A cy D h H) (hS : va_S A s.heap H locs) (hM : Met l y (Cond.code y bytes maxL ret :: wT) rm (va_Pc As (zS A D cy h)) (va_Qv (fun u => u = h') (zB A D cy) A) mc ms A) (hY : zYb y bytes maxL ret n) (hV : Cond.static y ∈ wT) (hl : Cond.methodLink own index y ∈ wT) (hrc : rm.cells = mc) (hrs : rm.slots = ms) (hR : rm.frames + 1 ≤ R.frames ∧ 8 + (maxL + 11) + rm.locals ≤ R.locals) (hn : As.length = n) (hst : st0 = As.reverse ++ rest) (hro : (rest.map fun v => v.category).sum ≤ 8) (hsz : ls.size = nL) (hdg : decode cc pc = .ok (.invokestatic index, 3)) (hf : cells + mc ≤ R.cells ∧ slots + ms ≤ R.slots)
    (kk : ∀ (H1 : Heap) (locs1 : List Loc), zW A cy D h' H1 → va_S A s.heap H1 locs1 → W p l e R s m args below meth c H1 locs1 (cells + mc) (slots + ms) Q (F0 m (pc + 3) ls (rest))) : W p l e R s m args below meth c H locs cells slots Q (F0 m pc ls st0) := by
  obtain ⟨hx, hb, hts, hown, hK, hml, hN, hA⟩ := id X
  refine va_callv (va_runS (As := As) (rest := rest) (n := n) ⟨hx, hb, hml, hown, hts⟩ hM ⟨zCallB hts hY hl hrc hrs hR, hts _ hV⟩ ⟨zS_blind _ _ _ _ _, fun U hU hw => zPre X hW hS _ U hU hw⟩ rfl hn hsz hst (lv_room hro) hdg hf) hS (fun q _ hq => hq) (fun q hq => hq) (fun u t H1 locs1 ht hvm hp hB hz hk hS1 => ?_)
  subst hp
  exact kk H1 locs1 (by rw [← ht]; exact hB) hS1
theorem z_callIv {b : Nat} (X : zX A D cy p s m args c cc own nL) (hW : zW A cy D h H) (hS : va_S A s.heap H locs) (hM : Met l y (Cond.code y bytes maxL none :: wT) rm (va_Pc (.ref b :: As) (zS A D cy h)) (va_Qv (fun u => u = h') (zB A D cy) A) mc ms A) (hY : zYb y bytes maxL none n) (hV : Cond.instanceMethod y ∈ wT) (hnm : y.name = "<init>") (hl : Cond.methodLink own index y ∈ wT) (hrc : rm.cells = mc) (hrs : rm.slots = ms) (hR : rm.frames + 1 ≤ R.frames ∧ 8 + (maxL + 11) + rm.locals ≤ R.locals) (hn : As.length = n) (hst : st0 = As.reverse ++ .ref b :: rest) (hro : (rest.map fun v => v.category).sum ≤ 8) (hsz : ls.size = nL) (hdg : decode cc pc = .ok (.invokespecial index, 3)) (hf : cells + mc ≤ R.cells ∧ slots + ms ≤ R.slots)
    (kk : ∀ (H1 : Heap) (locs1 : List Loc), zW A cy D h' H1 → va_S A s.heap H1 locs1 → W p l e R s m args below meth c H1 locs1 (cells + mc) (slots + ms) Q (F0 m (pc + 3) ls (rest))) : W p l e R s m args below meth c H locs cells slots Q (F0 m pc ls st0) := by
  obtain ⟨hx, hb, hts, hown, hK, hml, hN, hA⟩ := id X
  refine va_callv (va_runI (As := As) (rest := rest) (n := n) ⟨hx, hb, hml, hown, hts⟩ hM ⟨zCallB hts hY hl hrc hrs hR, hnm, hts _ hV⟩ ⟨zS_blind _ _ _ _ _, fun U hU hw => zPre X hW hS _ U hU hw⟩ rfl hn hsz hst (lv_room hro) hdg hf) hS (fun q _ hq => hq) (fun q hq => hq) (fun u t H1 locs1 ht hvm hp hB hz hk hS1 => ?_)
  subst hp
  exact kk H1 locs1 (by rw [← ht]; exact hB) hS1
theorem z_callINv {b : Nat} {host : String} (X : zX A D cy p s m args c cc own nL) (hW : zW A cy D h H) (hS : va_S A s.heap H locs) (hM : Met l y (Cond.code y bytes maxL none :: wT) rm (va_Pc (.ref b :: As) (zS A D cy h)) (va_Qv (fun u => u = h') (zB A D cy) A) mc ms A) (hY : zYb y bytes maxL none n) (hV : Cond.instanceMethod y ∈ wT) (hnm : y.name = "<init>") (hl : va_Nw (.methodLinkNest own index y host) s) (hrc : rm.cells = mc) (hrs : rm.slots = ms) (hR : rm.frames + 1 ≤ R.frames ∧ 8 + (maxL + 11) + rm.locals ≤ R.locals) (hn : As.length = n) (hst : st0 = As.reverse ++ .ref b :: rest) (hro : (rest.map fun v => v.category).sum ≤ 8) (hsz : ls.size = nL) (hdg : decode cc pc = .ok (.invokespecial index, 3)) (hf : cells + mc ≤ R.cells ∧ slots + ms ≤ R.slots)
    (kk : ∀ (H1 : Heap) (locs1 : List Loc), zW A cy D h' H1 → va_S A s.heap H1 locs1 → W p l e R s m args below meth c H1 locs1 (cells + mc) (slots + ms) Q (F0 m (pc + 3) ls (rest))) : W p l e R s m args below meth c H locs cells slots Q (F0 m pc ls st0) := by
  obtain ⟨hx, hb, hts, hown, hK, hml, hN, hA⟩ := id X
  refine va_callv (va_runIN (As := As) (rest := rest) (n := n) ⟨hx, hb, hml, hown, hts⟩ hM ⟨va_cnB n hts (zGood hY) rfl hrc hrs hl (hts _ hY.2.1) hY.2.2 hR, hnm, hts _ hV⟩ ⟨zS_blind _ _ _ _ _, fun U hU hw => zPre X hW hS _ U hU hw⟩ rfl hn hsz hst (lv_room hro) hdg hf) hS (fun q _ hq => hq) (fun q hq => hq) (fun u t H1 locs1 ht hvm hp hB hz hk hS1 => ?_)
  subst hp
  exact kk H1 locs1 (by rw [← ht]; exact hB) hS1
/-- System.arraycopy of longs -/
theorem z_copyL {a0 a : Nat} {sp dp n : Int32} (X : zX A D cy p s m args c cc own nL) (hW : zW A cy D h H) (hS : va_S A s.heap H locs) (hg : cL a0 sp a dp n h = some h') (hsz : ls.size = nL) (h1 : Cond.methodLink own index arraycopyName ∈ wT) (h2 : Cond.native arraycopyName ∈ wT) (h3 : Cond.static arraycopyName ∈ wT) (h4 : Cond.initialized "java/lang/System" ∈ wT) (hframes : 1 ≤ R.frames) (hlocals : (rest.map fun v => v.category).sum + (nativeFrameWords "java/lang/System" "arraycopy" 5 + 11) ≤ R.locals) (hdg : decode cc pc = .ok (.invokestatic index, 3))
    (kk : ∀ (H1 : Heap) (locs1 : List Loc), zW A cy D h' H1 → va_S A s.heap H1 locs1 → W p l e R s m args below meth c H1 locs1 cells slots Q (F0 m (pc + 3) ls rest)) : W p l e R s m args below meth c H locs cells slots Q (F0 m pc ls (.int n :: .int dp :: .ref a :: .int sp :: .ref a0 :: rest)) := by
  obtain ⟨⟨hT0, hT, g1, g2, g3, g4, g5⟩, rfl⟩ := it_v hg
  obtain ⟨hx, hb, hts, hown, hK, hml, hN, hA⟩ := X
  obtain ⟨-, -, k0⟩ := z_arr hW hT0 (by decide) (zE_long hT0)
  obtain ⟨gA, -, k1⟩ := z_arr hW hT (by decide) (zE_long hT)
  have nn : ∀ z : Int32, ¬ z < 0 → z.toInt = (z.toNatClampNeg : Int) := by
    intro z hz
    have hz0 : (0 : Int) ≤ z.toInt := by
      have := Int32.not_lt.mp hz
      simpa using Int32.le_iff_toInt_le.mp this
    show z.toInt = ((z.toInt.toNat : Nat) : Int)
    omega
  intro T hTT X1
  have hc0 : H[a0]? = some (vp_cell (cy 1) (zN h a0, .inr (.inl (zL h a0)))) := k0
  have hc1 : H[a]? = some (vp_cell (cy 1) (zN h a, .inr (.inl (zL h a)))) := k1
  obtain ⟨-, q0, hk0, cm0, hkk0⟩ := (hK.2 1 _ rfl).1 (zN h a0) (fun j => .long (zL h a0 j))
  obtain ⟨-, q1, hk1, cm1, hkk1⟩ := (hK.2 1 _ rfl).1 (zN h a) (fun j => .long (zL h a j))
  obtain ⟨vm', X', step⟩ := X1.arraycopy hx hown (hts _ h1) (hts _ h2) (hts _ h3) (hts _ h4) (src := a0) (dst := a) (cs := vp_cell (cy 1) (zN h a0, .inr (.inl (zL h a0)))) (cd := vp_cell (cy 1) (zN h a, .inr (.inl (zL h a)))) (srcPos := sp) (destPos := dp) (n := n) (by rw [hTT]; exact hc0) (by rw [hTT]; exact hc1)
    (fun _ h => by cases h) (fun _ h => by cases h) (fun h => by cases h) (fun h => by cases h) hk0 hk1 hkk0 hkk1 (by simp [refKind]) g1 g2 g3
    (by rw [nn sp g1, nn n g3]; show ¬ _ > ((arrV (cy 1) (zN h a0) (fun j => .long (zL h a0 j))).slots.size : Int); rw [arrV_size]; omega)
    (by rw [nn dp g2, nn n g3]; show ¬ _ > ((arrV (cy 1) (zN h a) (fun j => .long (zL h a j))).slots.size : Int); rw [arrV_size]; omega)
    (fun vm₁ _ i hi => by
      have e : (vp_cell (cy 1) (zN h a0, .inr (.inl (zL h a0)))).slots.getD (sp.toNatClampNeg + i) .null = .long (zL h a0 (sp.toNatClampNeg + i)) := by
        show (arrV (cy 1) (zN h a0) (fun j => .long (zL h a0 j))).slots.getD _ _ = _
        rw [Array.getD_eq_getD_getElem?, arrV_read _ _ (by omega)]
        rfl
      refine ⟨?_, ?_⟩
      · rw [e]
        rfl
      · rw [e]
        exact trivial)
    (g := F0 m pc ls (.int n :: .int dp :: .ref a :: .int sp :: .ref a0 :: rest)) rfl (by rw [hml, ← hsz]) (rest := rest) rfl (by rw [hb]; exact hdg) hframes (by show 2 * 0 + _ + _ ≤ _; omega)
  have e1 : copied (vp_cell (cy 1) (zN h a0, .inr (.inl (zL h a0)))) (vp_cell (cy 1) (zN h a, .inr (.inl (zL h a)))) sp dp n = vp_cell (cy 1) (zN h a, .inr (.inl (va_cpy (zL h a0) (zL h a) sp.toNatClampNeg dp.toNatClampNeg n.toNatClampNeg))) := va_copied (fun z => .long z) (cy 1) (cy 1) (zL h a0) (zL h a) g4
  rw [e1] at X' step
  have hl : a < H.size := (Array.getElem?_eq_some_iff.mp hc1).1
  have hheap : ((T.setVm vm').setCell a (vp_cell (cy 1) (zN h a, .inr (.inl (va_cpy (zL h a0) (zL h a) sp.toNatClampNeg dp.toNatClampNeg n.toNatClampNeg))))).heap = H.setIfInBounds a (vp_cell (cy 1) (zN h a, .inr (.inl (va_cpy (zL h a0) (zL h a) sp.toNatClampNeg dp.toNatClampNeg n.toNatClampNeg)))) := by rw [← hTT]; rfl
  generalize hv : va_cpy (zL h a0) (zL h a) sp.toNatClampNeg dp.toNatClampNeg n.toNatClampNeg = cv at *
  have oq : ∀ q : Nat, q ≠ a → (H.setIfInBounds a (vp_cell (cy 1) (zN h a, .inr (.inl cv))))[q]? = H[q]? := fun q hq => by simp [Array.getElem?_setIfInBounds, Ne.symm hq]
  have ho : zOff a h (h.1, va_up h.2.1 a cv, h.2.2) := ⟨rfl, fun b hb => ⟨rfl, va_up_ne _ _ hb, rfl⟩⟩
  have hE : zE cy (h.1, va_up h.2.1 a cv, h.2.2) a = .inl (cy 1, zN h a, .inr (.inl cv)) := by
    have hT2 : zT (h.1, va_up h.2.1 a cv, h.2.2) a = 13 := hT
    rw [zE_long hT2]
    show (Sum.inl (cy 1, zN h a, Sum.inr (Sum.inl (va_up h.2.1 a cv a))) : va_E) = _
    rw [va_up_self]
  obtain ⟨t, a1, b1⟩ := kk _ _ (zW_upd hW ho (by simp) oq (by rw [hE]; show (H.setIfInBounds a _)[a]? = some _; simp [Array.getElem?_setIfInBounds, hl])) ⟨by simp; exact hS.1, fun q g1 g2 => by
      rw [oq q (fun e => g2 (by rw [e]; exact gA))]
      exact hS.2.1 q g1 g2, fun q hq => by
      rcases List.mem_append.mp hq with h | h
      · exact hS.2.2 q h
      · obtain ⟨z, -, hz⟩ := List.mem_map.mp h
        rw [← hz]
        exact gA⟩ _ hheap X'
  exact ⟨t, step t a1, b1⟩
end ZR4
end
