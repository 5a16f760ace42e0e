section
/-- a private method of a class that the tables say can be made, by its rows of tables_1 -/
def lw_okq (q : MethodName × Nat) : Prop := (q.1.cls ≠ "java/lang/invoke/MethodHandle" ∧ q.1.cls ≠ "java/lang/invoke/VarHandle") ∧ Cond.instantiable q.1.cls q.2 ∈ tables_1 ∧ Cond.privateMethod q.1 ∈ tables_1 ∧ Cond.instanceMethod q.1 ∈ tables_1
theorem lw_p0 : lw_okq (⟨"PedalLayers$History", "stateAt", "(I)LPedalLayers$Pedal;"⟩, 3) := ⟨⟨by decide +kernel, by decide +kernel⟩, List.mem_of_getElem? (i := 136) (by decide +kernel), List.mem_of_getElem? (i := 260) (by decide +kernel), List.mem_of_getElem? (i := 261) (by decide +kernel)⟩
theorem lw_p1 : lw_okq (⟨"PedalLayers$Pedal", "layerAt", "(I)LPedalLayers$Layer;"⟩, 11) := ⟨⟨by decide +kernel, by decide +kernel⟩, List.mem_of_getElem? (i := 25) (by decide +kernel), List.mem_of_getElem? (i := 294) (by decide +kernel), List.mem_of_getElem? (i := 295) (by decide +kernel)⟩
theorem lw_p2 : lw_okq (⟨"PedalLayers$Pedal", "beginFirstTake", "()I"⟩, 11) := ⟨⟨by decide +kernel, by decide +kernel⟩, List.mem_of_getElem? (i := 25) (by decide +kernel), List.mem_of_getElem? (i := 311) (by decide +kernel), List.mem_of_getElem? (i := 312) (by decide +kernel)⟩
theorem lw_p3 : lw_okq (⟨"PedalLayers$Pedal", "beginTakeOver", "()I"⟩, 11) := ⟨⟨by decide +kernel, by decide +kernel⟩, List.mem_of_getElem? (i := 25) (by decide +kernel), List.mem_of_getElem? (i := 323) (by decide +kernel), List.mem_of_getElem? (i := 324) (by decide +kernel)⟩
theorem lw_p4 : lw_okq (⟨"PedalLayers$Pedal", "startLoop", "()I"⟩, 11) := ⟨⟨by decide +kernel, by decide +kernel⟩, List.mem_of_getElem? (i := 25) (by decide +kernel), List.mem_of_getElem? (i := 336) (by decide +kernel), List.mem_of_getElem? (i := 337) (by decide +kernel)⟩
theorem lw_p5 : lw_okq (⟨"PedalLayers$Pedal", "endTake", "()I"⟩, 11) := ⟨⟨by decide +kernel, by decide +kernel⟩, List.mem_of_getElem? (i := 25) (by decide +kernel), List.mem_of_getElem? (i := 340) (by decide +kernel), List.mem_of_getElem? (i := 341) (by decide +kernel)⟩
theorem lw_p6 : lw_okq (⟨"PedalLayers$Pedal", "lay", "(I)V"⟩, 11) := ⟨⟨by decide +kernel, by decide +kernel⟩, List.mem_of_getElem? (i := 25) (by decide +kernel), List.mem_of_getElem? (i := 354) (by decide +kernel), List.mem_of_getElem? (i := 355) (by decide +kernel)⟩
theorem lw_p7 : lw_okq (⟨"PedalLayers", "settle", "(I)I"⟩, 9) := ⟨⟨by decide +kernel, by decide +kernel⟩, List.mem_of_getElem? (i := 17) (by decide +kernel), List.mem_of_getElem? (i := 383) (by decide +kernel), List.mem_of_getElem? (i := 384) (by decide +kernel)⟩
theorem lw_p8 : lw_okq (⟨"PedalLayers$Pedal", "cellOfTake", "()I"⟩, 11) := ⟨⟨by decide +kernel, by decide +kernel⟩, List.mem_of_getElem? (i := 25) (by decide +kernel), List.mem_of_getElem? (i := 415) (by decide +kernel), List.mem_of_getElem? (i := 416) (by decide +kernel)⟩
theorem lw_p9 : lw_okq (⟨"PedalLayers$Pedal", "moveLoop", "(I)I"⟩, 11) := ⟨⟨by decide +kernel, by decide +kernel⟩, List.mem_of_getElem? (i := 25) (by decide +kernel), List.mem_of_getElem? (i := 436) (by decide +kernel), List.mem_of_getElem? (i := 437) (by decide +kernel)⟩
theorem lw_p10 : lw_okq (⟨"PedalLayers$Pedal", "fadeLayers", "()V"⟩, 11) := ⟨⟨by decide +kernel, by decide +kernel⟩, List.mem_of_getElem? (i := 25) (by decide +kernel), List.mem_of_getElem? (i := 440) (by decide +kernel), List.mem_of_getElem? (i := 441) (by decide +kernel)⟩
theorem lw_p11 : lw_okq (⟨"PedalLayers$Pedal", "longestTake", "()I"⟩, 11) := ⟨⟨by decide +kernel, by decide +kernel⟩, List.mem_of_getElem? (i := 25) (by decide +kernel), List.mem_of_getElem? (i := 451) (by decide +kernel), List.mem_of_getElem? (i := 452) (by decide +kernel)⟩
theorem lw_p12 : lw_okq (⟨"PedalLayers", "carryOut", "(I)I"⟩, 9) := ⟨⟨by decide +kernel, by decide +kernel⟩, List.mem_of_getElem? (i := 17) (by decide +kernel), List.mem_of_getElem? (i := 578) (by decide +kernel), List.mem_of_getElem? (i := 579) (by decide +kernel)⟩
theorem lw_p13 : lw_okq (⟨"PedalLayers$Ear", "buriedOf", "(LPedalLayers$Pedal;II)I"⟩, 4) := ⟨⟨by decide +kernel, by decide +kernel⟩, List.mem_of_getElem? (i := 205) (by decide +kernel), List.mem_of_getElem? (i := 698) (by decide +kernel), List.mem_of_getElem? (i := 699) (by decide +kernel)⟩
theorem lw_p14 : lw_okq (⟨"PedalLayers$Ear", "beginsAt", "(III)Z"⟩, 4) := ⟨⟨by decide +kernel, by decide +kernel⟩, List.mem_of_getElem? (i := 205) (by decide +kernel), List.mem_of_getElem? (i := 717) (by decide +kernel), List.mem_of_getElem? (i := 718) (by decide +kernel)⟩
theorem lw_p15 : lw_okq (⟨"PedalLayersModel", "whyNotPress", "()I"⟩, 9) := ⟨⟨by decide +kernel, by decide +kernel⟩, List.mem_of_getElem? (i := 799) (by decide +kernel), List.mem_of_getElem? (i := 839) (by decide +kernel), List.mem_of_getElem? (i := 840) (by decide +kernel)⟩
def lw_privs_1 : List (MethodName × Nat) := [(⟨"PedalLayers$History", "stateAt", "(I)LPedalLayers$Pedal;"⟩, 3), (⟨"PedalLayers$Pedal", "layerAt", "(I)LPedalLayers$Layer;"⟩, 11), (⟨"PedalLayers$Pedal", "beginFirstTake", "()I"⟩, 11), (⟨"PedalLayers$Pedal", "beginTakeOver", "()I"⟩, 11), (⟨"PedalLayers$Pedal", "startLoop", "()I"⟩, 11), (⟨"PedalLayers$Pedal", "endTake", "()I"⟩, 11), (⟨"PedalLayers$Pedal", "lay", "(I)V"⟩, 11), (⟨"PedalLayers", "settle", "(I)I"⟩, 9), (⟨"PedalLayers$Pedal", "cellOfTake", "()I"⟩, 11), (⟨"PedalLayers$Pedal", "moveLoop", "(I)I"⟩, 11), (⟨"PedalLayers$Pedal", "fadeLayers", "()V"⟩, 11), (⟨"PedalLayers$Pedal", "longestTake", "()I"⟩, 11), (⟨"PedalLayers", "carryOut", "(I)I"⟩, 9), (⟨"PedalLayers$Ear", "buriedOf", "(LPedalLayers$Pedal;II)I"⟩, 4), (⟨"PedalLayers$Ear", "beginsAt", "(III)Z"⟩, 4), (⟨"PedalLayersModel", "whyNotPress", "()I"⟩, 9)]
theorem lw_r1 : ∀ q ∈ lw_privs_1, lw_okq q := List.forall_mem_cons.mpr ⟨lw_p0, List.forall_mem_cons.mpr ⟨lw_p1, List.forall_mem_cons.mpr ⟨lw_p2, List.forall_mem_cons.mpr ⟨lw_p3, List.forall_mem_cons.mpr ⟨lw_p4, List.forall_mem_cons.mpr ⟨lw_p5, List.forall_mem_cons.mpr ⟨lw_p6, List.forall_mem_cons.mpr ⟨lw_p7, List.forall_mem_cons.mpr ⟨lw_p8, List.forall_mem_cons.mpr ⟨lw_p9, List.forall_mem_cons.mpr ⟨lw_p10, List.forall_mem_cons.mpr ⟨lw_p11, List.forall_mem_cons.mpr ⟨lw_p12, List.forall_mem_cons.mpr ⟨lw_p13, List.forall_mem_cons.mpr ⟨lw_p14, List.forall_mem_cons.mpr ⟨lw_p15, fun _ h => absurd h List.not_mem_nil⟩⟩⟩⟩⟩⟩⟩⟩⟩⟩⟩⟩⟩⟩⟩⟩
theorem lw_p16 : lw_okq (⟨"PedalLayersModel", "runsTake", "()Z"⟩, 9) := ⟨⟨by decide +kernel, by decide +kernel⟩, List.mem_of_getElem? (i := 799) (by decide +kernel), List.mem_of_getElem? (i := 843) (by decide +kernel), List.mem_of_getElem? (i := 844) (by decide +kernel)⟩
theorem lw_p17 : lw_okq (⟨"PedalLayersModel", "of", "(I)I"⟩, 9) := ⟨⟨by decide +kernel, by decide +kernel⟩, List.mem_of_getElem? (i := 799) (by decide +kernel), List.mem_of_getElem? (i := 847) (by decide +kernel), List.mem_of_getElem? (i := 848) (by decide +kernel)⟩
theorem lw_p18 : lw_okq (⟨"PedalLayersModel", "remembers", "()V"⟩, 9) := ⟨⟨by decide +kernel, by decide +kernel⟩, List.mem_of_getElem? (i := 799) (by decide +kernel), List.mem_of_getElem? (i := 851) (by decide +kernel), List.mem_of_getElem? (i := 852) (by decide +kernel)⟩
theorem lw_p19 : lw_okq (⟨"PedalLayersModel", "presses", "()V"⟩, 9) := ⟨⟨by decide +kernel, by decide +kernel⟩, List.mem_of_getElem? (i := 799) (by decide +kernel), List.mem_of_getElem? (i := 855) (by decide +kernel), List.mem_of_getElem? (i := 856) (by decide +kernel)⟩
theorem lw_p20 : lw_okq (⟨"PedalLayersModel", "endsFirst", "()V"⟩, 9) := ⟨⟨by decide +kernel, by decide +kernel⟩, List.mem_of_getElem? (i := 799) (by decide +kernel), List.mem_of_getElem? (i := 859) (by decide +kernel), List.mem_of_getElem? (i := 860) (by decide +kernel)⟩
theorem lw_p21 : lw_okq (⟨"PedalLayersModel", "roundedOf", "(I)I"⟩, 9) := ⟨⟨by decide +kernel, by decide +kernel⟩, List.mem_of_getElem? (i := 799) (by decide +kernel), List.mem_of_getElem? (i := 863) (by decide +kernel), List.mem_of_getElem? (i := 864) (by decide +kernel)⟩
theorem lw_p22 : lw_okq (⟨"PedalLayersModel", "lays", "(II)V"⟩, 9) := ⟨⟨by decide +kernel, by decide +kernel⟩, List.mem_of_getElem? (i := 799) (by decide +kernel), List.mem_of_getElem? (i := 867) (by decide +kernel), List.mem_of_getElem? (i := 868) (by decide +kernel)⟩
theorem lw_p23 : lw_okq (⟨"PedalLayersModel", "clears", "(I)V"⟩, 9) := ⟨⟨by decide +kernel, by decide +kernel⟩, List.mem_of_getElem? (i := 799) (by decide +kernel), List.mem_of_getElem? (i := 871) (by decide +kernel), List.mem_of_getElem? (i := 872) (by decide +kernel)⟩
theorem lw_p24 : lw_okq (⟨"PedalLayersModel", "force", "(III)I"⟩, 9) := ⟨⟨by decide +kernel, by decide +kernel⟩, List.mem_of_getElem? (i := 799) (by decide +kernel), List.mem_of_getElem? (i := 875) (by decide +kernel), List.mem_of_getElem? (i := 876) (by decide +kernel)⟩
theorem lw_p25 : lw_okq (⟨"PedalLayersModel", "sets", "(IIII)V"⟩, 9) := ⟨⟨by decide +kernel, by decide +kernel⟩, List.mem_of_getElem? (i := 799) (by decide +kernel), List.mem_of_getElem? (i := 883) (by decide +kernel), List.mem_of_getElem? (i := 884) (by decide +kernel)⟩
theorem lw_p26 : lw_okq (⟨"PedalLayersModel", "endsTake", "()V"⟩, 9) := ⟨⟨by decide +kernel, by decide +kernel⟩, List.mem_of_getElem? (i := 799) (by decide +kernel), List.mem_of_getElem? (i := 888) (by decide +kernel), List.mem_of_getElem? (i := 889) (by decide +kernel)⟩
theorem lw_p27 : lw_okq (⟨"PedalLayersModel", "starts", "()V"⟩, 9) := ⟨⟨by decide +kernel, by decide +kernel⟩, List.mem_of_getElem? (i := 799) (by decide +kernel), List.mem_of_getElem? (i := 892) (by decide +kernel), List.mem_of_getElem? (i := 893) (by decide +kernel)⟩
theorem lw_p28 : lw_okq (⟨"PedalLayersModel", "endsOver", "()V"⟩, 9) := ⟨⟨by decide +kernel, by decide +kernel⟩, List.mem_of_getElem? (i := 799) (by decide +kernel), List.mem_of_getElem? (i := 897) (by decide +kernel), List.mem_of_getElem? (i := 898) (by decide +kernel)⟩
theorem lw_p29 : lw_okq (⟨"PedalLayersModel", "loop", "()I"⟩, 9) := ⟨⟨by decide +kernel, by decide +kernel⟩, List.mem_of_getElem? (i := 799) (by decide +kernel), List.mem_of_getElem? (i := 901) (by decide +kernel), List.mem_of_getElem? (i := 902) (by decide +kernel)⟩
theorem lw_p30 : lw_okq (⟨"PedalLayersModel", "lengthOf", "(I)I"⟩, 9) := ⟨⟨by decide +kernel, by decide +kernel⟩, List.mem_of_getElem? (i := 799) (by decide +kernel), List.mem_of_getElem? (i := 905) (by decide +kernel), List.mem_of_getElem? (i := 906) (by decide +kernel)⟩
theorem lw_p31 : lw_okq (⟨"PedalLayersModel", "beginsTake", "()V"⟩, 9) := ⟨⟨by decide +kernel, by decide +kernel⟩, List.mem_of_getElem? (i := 799) (by decide +kernel), List.mem_of_getElem? (i := 909) (by decide +kernel), List.mem_of_getElem? (i := 910) (by decide +kernel)⟩
def lw_privs_2 : List (MethodName × Nat) := [(⟨"PedalLayersModel", "runsTake", "()Z"⟩, 9), (⟨"PedalLayersModel", "of", "(I)I"⟩, 9), (⟨"PedalLayersModel", "remembers", "()V"⟩, 9), (⟨"PedalLayersModel", "presses", "()V"⟩, 9), (⟨"PedalLayersModel", "endsFirst", "()V"⟩, 9), (⟨"PedalLayersModel", "roundedOf", "(I)I"⟩, 9), (⟨"PedalLayersModel", "lays", "(II)V"⟩, 9), (⟨"PedalLayersModel", "clears", "(I)V"⟩, 9), (⟨"PedalLayersModel", "force", "(III)I"⟩, 9), (⟨"PedalLayersModel", "sets", "(IIII)V"⟩, 9), (⟨"PedalLayersModel", "endsTake", "()V"⟩, 9), (⟨"PedalLayersModel", "starts", "()V"⟩, 9), (⟨"PedalLayersModel", "endsOver", "()V"⟩, 9), (⟨"PedalLayersModel", "loop", "()I"⟩, 9), (⟨"PedalLayersModel", "lengthOf", "(I)I"⟩, 9), (⟨"PedalLayersModel", "beginsTake", "()V"⟩, 9)]
theorem lw_r2 : ∀ q ∈ lw_privs_2, lw_okq q := List.forall_mem_cons.mpr ⟨lw_p16, List.forall_mem_cons.mpr ⟨lw_p17, List.forall_mem_cons.mpr ⟨lw_p18, List.forall_mem_cons.mpr ⟨lw_p19, List.forall_mem_cons.mpr ⟨lw_p20, List.forall_mem_cons.mpr ⟨lw_p21, List.forall_mem_cons.mpr ⟨lw_p22, List.forall_mem_cons.mpr ⟨lw_p23, List.forall_mem_cons.mpr ⟨lw_p24, List.forall_mem_cons.mpr ⟨lw_p25, List.forall_mem_cons.mpr ⟨lw_p26, List.forall_mem_cons.mpr ⟨lw_p27, List.forall_mem_cons.mpr ⟨lw_p28, List.forall_mem_cons.mpr ⟨lw_p29, List.forall_mem_cons.mpr ⟨lw_p30, List.forall_mem_cons.mpr ⟨lw_p31, fun _ h => absurd h List.not_mem_nil⟩⟩⟩⟩⟩⟩⟩⟩⟩⟩⟩⟩⟩⟩⟩⟩
theorem lw_p32 : lw_okq (⟨"PedalLayersModel", "whyNotStop", "()I"⟩, 9) := ⟨⟨by decide +kernel, by decide +kernel⟩, List.mem_of_getElem? (i := 799) (by decide +kernel), List.mem_of_getElem? (i := 918) (by decide +kernel), List.mem_of_getElem? (i := 919) (by decide +kernel)⟩
theorem lw_p33 : lw_okq (⟨"PedalLayersModel", "stops", "()V"⟩, 9) := ⟨⟨by decide +kernel, by decide +kernel⟩, List.mem_of_getElem? (i := 799) (by decide +kernel), List.mem_of_getElem? (i := 922) (by decide +kernel), List.mem_of_getElem? (i := 923) (by decide +kernel)⟩
theorem lw_p34 : lw_okq (⟨"PedalLayersModel", "whyNotHit", "(II)I"⟩, 9) := ⟨⟨by decide +kernel, by decide +kernel⟩, List.mem_of_getElem? (i := 799) (by decide +kernel), List.mem_of_getElem? (i := 935) (by decide +kernel), List.mem_of_getElem? (i := 936) (by decide +kernel)⟩
theorem lw_p35 : lw_okq (⟨"PedalLayersModel", "hits", "(II)I"⟩, 9) := ⟨⟨by decide +kernel, by decide +kernel⟩, List.mem_of_getElem? (i := 799) (by decide +kernel), List.mem_of_getElem? (i := 942) (by decide +kernel), List.mem_of_getElem? (i := 943) (by decide +kernel)⟩
theorem lw_p36 : lw_okq (⟨"PedalLayersModel", "passes", "(I)I"⟩, 9) := ⟨⟨by decide +kernel, by decide +kernel⟩, List.mem_of_getElem? (i := 799) (by decide +kernel), List.mem_of_getElem? (i := 950) (by decide +kernel), List.mem_of_getElem? (i := 951) (by decide +kernel)⟩
theorem lw_p37 : lw_okq (⟨"PedalLayersModel", "ticks", "()I"⟩, 9) := ⟨⟨by decide +kernel, by decide +kernel⟩, List.mem_of_getElem? (i := 799) (by decide +kernel), List.mem_of_getElem? (i := 954) (by decide +kernel), List.mem_of_getElem? (i := 955) (by decide +kernel)⟩
theorem lw_p38 : lw_okq (⟨"PedalLayersModel", "fades", "()V"⟩, 9) := ⟨⟨by decide +kernel, by decide +kernel⟩, List.mem_of_getElem? (i := 799) (by decide +kernel), List.mem_of_getElem? (i := 958) (by decide +kernel), List.mem_of_getElem? (i := 959) (by decide +kernel)⟩
theorem lw_p39 : lw_okq (⟨"PedalLayersModel", "whyNotPeel", "()I"⟩, 9) := ⟨⟨by decide +kernel, by decide +kernel⟩, List.mem_of_getElem? (i := 799) (by decide +kernel), List.mem_of_getElem? (i := 967) (by decide +kernel), List.mem_of_getElem? (i := 968) (by decide +kernel)⟩
theorem lw_p40 : lw_okq (⟨"PedalLayersModel", "peels", "()V"⟩, 9) := ⟨⟨by decide +kernel, by decide +kernel⟩, List.mem_of_getElem? (i := 799) (by decide +kernel), List.mem_of_getElem? (i := 971) (by decide +kernel), List.mem_of_getElem? (i := 972) (by decide +kernel)⟩
theorem lw_p41 : lw_okq (⟨"PedalLayersModel", "whyNotBack", "()I"⟩, 9) := ⟨⟨by decide +kernel, by decide +kernel⟩, List.mem_of_getElem? (i := 799) (by decide +kernel), List.mem_of_getElem? (i := 979) (by decide +kernel), List.mem_of_getElem? (i := 980) (by decide +kernel)⟩
theorem lw_p42 : lw_okq (⟨"PedalLayersModel", "backs", "()V"⟩, 9) := ⟨⟨by decide +kernel, by decide +kernel⟩, List.mem_of_getElem? (i := 799) (by decide +kernel), List.mem_of_getElem? (i := 983) (by decide +kernel), List.mem_of_getElem? (i := 984) (by decide +kernel)⟩
theorem lw_p43 : lw_okq (⟨"PedalLayersModel", "isLayer", "(I)Z"⟩, 9) := ⟨⟨by decide +kernel, by decide +kernel⟩, List.mem_of_getElem? (i := 799) (by decide +kernel), List.mem_of_getElem? (i := 991) (by decide +kernel), List.mem_of_getElem? (i := 992) (by decide +kernel)⟩
theorem lw_p44 : lw_okq (⟨"PedalLayersModel", "faultOf", "(I)I"⟩, 9) := ⟨⟨by decide +kernel, by decide +kernel⟩, List.mem_of_getElem? (i := 799) (by decide +kernel), List.mem_of_getElem? (i := 1015) (by decide +kernel), List.mem_of_getElem? (i := 1016) (by decide +kernel)⟩
theorem lw_p45 : lw_okq (⟨"PedalLayersModel", "orderEnd", "(I)I"⟩, 9) := ⟨⟨by decide +kernel, by decide +kernel⟩, List.mem_of_getElem? (i := 799) (by decide +kernel), List.mem_of_getElem? (i := 1019) (by decide +kernel), List.mem_of_getElem? (i := 1020) (by decide +kernel)⟩
theorem lw_p46 : lw_okq (⟨"PedalLayersModel", "sign", "(I)I"⟩, 9) := ⟨⟨by decide +kernel, by decide +kernel⟩, List.mem_of_getElem? (i := 799) (by decide +kernel), List.mem_of_getElem? (i := 1023) (by decide +kernel), List.mem_of_getElem? (i := 1024) (by decide +kernel)⟩
theorem lw_p47 : lw_okq (⟨"PedalLayersModel", "numberEnd", "(III)I"⟩, 9) := ⟨⟨by decide +kernel, by decide +kernel⟩, List.mem_of_getElem? (i := 799) (by decide +kernel), List.mem_of_getElem? (i := 1027) (by decide +kernel), List.mem_of_getElem? (i := 1028) (by decide +kernel)⟩
def lw_privs_3 : List (MethodName × Nat) := [(⟨"PedalLayersModel", "whyNotStop", "()I"⟩, 9), (⟨"PedalLayersModel", "stops", "()V"⟩, 9), (⟨"PedalLayersModel", "whyNotHit", "(II)I"⟩, 9), (⟨"PedalLayersModel", "hits", "(II)I"⟩, 9), (⟨"PedalLayersModel", "passes", "(I)I"⟩, 9), (⟨"PedalLayersModel", "ticks", "()I"⟩, 9), (⟨"PedalLayersModel", "fades", "()V"⟩, 9), (⟨"PedalLayersModel", "whyNotPeel", "()I"⟩, 9), (⟨"PedalLayersModel", "peels", "()V"⟩, 9), (⟨"PedalLayersModel", "whyNotBack", "()I"⟩, 9), (⟨"PedalLayersModel", "backs", "()V"⟩, 9), (⟨"PedalLayersModel", "isLayer", "(I)Z"⟩, 9), (⟨"PedalLayersModel", "faultOf", "(I)I"⟩, 9), (⟨"PedalLayersModel", "orderEnd", "(I)I"⟩, 9), (⟨"PedalLayersModel", "sign", "(I)I"⟩, 9), (⟨"PedalLayersModel", "numberEnd", "(III)I"⟩, 9)]
theorem lw_r3 : ∀ q ∈ lw_privs_3, lw_okq q := List.forall_mem_cons.mpr ⟨lw_p32, List.forall_mem_cons.mpr ⟨lw_p33, List.forall_mem_cons.mpr ⟨lw_p34, List.forall_mem_cons.mpr ⟨lw_p35, List.forall_mem_cons.mpr ⟨lw_p36, List.forall_mem_cons.mpr ⟨lw_p37, List.forall_mem_cons.mpr ⟨lw_p38, List.forall_mem_cons.mpr ⟨lw_p39, List.forall_mem_cons.mpr ⟨lw_p40, List.forall_mem_cons.mpr ⟨lw_p41, List.forall_mem_cons.mpr ⟨lw_p42, List.forall_mem_cons.mpr ⟨lw_p43, List.forall_mem_cons.mpr ⟨lw_p44, List.forall_mem_cons.mpr ⟨lw_p45, List.forall_mem_cons.mpr ⟨lw_p46, List.forall_mem_cons.mpr ⟨lw_p47, fun _ h => absurd h List.not_mem_nil⟩⟩⟩⟩⟩⟩⟩⟩⟩⟩⟩⟩⟩⟩⟩⟩
theorem lw_p48 : lw_okq (⟨"PedalLayersModel", "digit", "(I)I"⟩, 9) := ⟨⟨by decide +kernel, by decide +kernel⟩, List.mem_of_getElem? (i := 799) (by decide +kernel), List.mem_of_getElem? (i := 1031) (by decide +kernel), List.mem_of_getElem? (i := 1032) (by decide +kernel)⟩
theorem lw_p49 : lw_okq (⟨"PedalLayersModel", "behind", "(II)I"⟩, 9) := ⟨⟨by decide +kernel, by decide +kernel⟩, List.mem_of_getElem? (i := 799) (by decide +kernel), List.mem_of_getElem? (i := 1035) (by decide +kernel), List.mem_of_getElem? (i := 1036) (by decide +kernel)⟩
theorem lw_p50 : lw_okq (⟨"PedalLayersModel", "carries", "(I)I"⟩, 9) := ⟨⟨by decide +kernel, by decide +kernel⟩, List.mem_of_getElem? (i := 799) (by decide +kernel), List.mem_of_getElem? (i := 1043) (by decide +kernel), List.mem_of_getElem? (i := 1044) (by decide +kernel)⟩
theorem lw_p51 : lw_okq (⟨"PedalLayersModel", "numberAt", "(I)I"⟩, 9) := ⟨⟨by decide +kernel, by decide +kernel⟩, List.mem_of_getElem? (i := 799) (by decide +kernel), List.mem_of_getElem? (i := 1047) (by decide +kernel), List.mem_of_getElem? (i := 1048) (by decide +kernel)⟩
theorem lw_p52 : lw_okq (⟨"PedalLayersModel", "goes", "(II)I"⟩, 9) := ⟨⟨by decide +kernel, by decide +kernel⟩, List.mem_of_getElem? (i := 799) (by decide +kernel), List.mem_of_getElem? (i := 1051) (by decide +kernel), List.mem_of_getElem? (i := 1052) (by decide +kernel)⟩
theorem lw_p53 : lw_okq (⟨"PedalLayersModel", "forces", "(III)I"⟩, 9) := ⟨⟨by decide +kernel, by decide +kernel⟩, List.mem_of_getElem? (i := 799) (by decide +kernel), List.mem_of_getElem? (i := 1063) (by decide +kernel), List.mem_of_getElem? (i := 1064) (by decide +kernel)⟩
theorem lw_p54 : lw_okq (⟨"PedalLayersModel", "isCell", "(I)Z"⟩, 9) := ⟨⟨by decide +kernel, by decide +kernel⟩, List.mem_of_getElem? (i := 799) (by decide +kernel), List.mem_of_getElem? (i := 1075) (by decide +kernel), List.mem_of_getElem? (i := 1076) (by decide +kernel)⟩
theorem lw_p55 : lw_okq (⟨"PedalLayersModel", "ringOf", "(III)I"⟩, 9) := ⟨⟨by decide +kernel, by decide +kernel⟩, List.mem_of_getElem? (i := 799) (by decide +kernel), List.mem_of_getElem? (i := 1079) (by decide +kernel), List.mem_of_getElem? (i := 1080) (by decide +kernel)⟩
theorem lw_p56 : lw_okq (⟨"PedalLayersModel", "adds", "(III)I"⟩, 9) := ⟨⟨by decide +kernel, by decide +kernel⟩, List.mem_of_getElem? (i := 799) (by decide +kernel), List.mem_of_getElem? (i := 1083) (by decide +kernel), List.mem_of_getElem? (i := 1084) (by decide +kernel)⟩
theorem lw_p57 : lw_okq (⟨"PedalLayersModel", "sumIn", "(II)I"⟩, 9) := ⟨⟨by decide +kernel, by decide +kernel⟩, List.mem_of_getElem? (i := 799) (by decide +kernel), List.mem_of_getElem? (i := 1091) (by decide +kernel), List.mem_of_getElem? (i := 1092) (by decide +kernel)⟩
theorem lw_p58 : lw_okq (⟨"PedalLayersModel", "keys", "(II)I"⟩, 9) := ⟨⟨by decide +kernel, by decide +kernel⟩, List.mem_of_getElem? (i := 799) (by decide +kernel), List.mem_of_getElem? (i := 1095) (by decide +kernel), List.mem_of_getElem? (i := 1096) (by decide +kernel)⟩
theorem lw_p59 : lw_okq (⟨"PedalLayersModel", "buriedOf", "(I)I"⟩, 9) := ⟨⟨by decide +kernel, by decide +kernel⟩, List.mem_of_getElem? (i := 799) (by decide +kernel), List.mem_of_getElem? (i := 1107) (by decide +kernel), List.mem_of_getElem? (i := 1108) (by decide +kernel)⟩
theorem lw_p60 : lw_okq (⟨"PedalLayersModel", "comesAt", "(I)Z"⟩, 9) := ⟨⟨by decide +kernel, by decide +kernel⟩, List.mem_of_getElem? (i := 799) (by decide +kernel), List.mem_of_getElem? (i := 1115) (by decide +kernel), List.mem_of_getElem? (i := 1116) (by decide +kernel)⟩
theorem lw_p61 : lw_okq (⟨"PedalLayersModel", "sumOf", "(I)I"⟩, 9) := ⟨⟨by decide +kernel, by decide +kernel⟩, List.mem_of_getElem? (i := 799) (by decide +kernel), List.mem_of_getElem? (i := 1127) (by decide +kernel), List.mem_of_getElem? (i := 1128) (by decide +kernel)⟩
theorem lw_p62 : lw_okq (⟨"PedalLayersModel", "greatest", "()I"⟩, 9) := ⟨⟨by decide +kernel, by decide +kernel⟩, List.mem_of_getElem? (i := 799) (by decide +kernel), List.mem_of_getElem? (i := 1151) (by decide +kernel), List.mem_of_getElem? (i := 1152) (by decide +kernel)⟩
def lw_privs_4 : List (MethodName × Nat) := [(⟨"PedalLayersModel", "digit", "(I)I"⟩, 9), (⟨"PedalLayersModel", "behind", "(II)I"⟩, 9), (⟨"PedalLayersModel", "carries", "(I)I"⟩, 9), (⟨"PedalLayersModel", "numberAt", "(I)I"⟩, 9), (⟨"PedalLayersModel", "goes", "(II)I"⟩, 9), (⟨"PedalLayersModel", "forces", "(III)I"⟩, 9), (⟨"PedalLayersModel", "isCell", "(I)Z"⟩, 9), (⟨"PedalLayersModel", "ringOf", "(III)I"⟩, 9), (⟨"PedalLayersModel", "adds", "(III)I"⟩, 9), (⟨"PedalLayersModel", "sumIn", "(II)I"⟩, 9), (⟨"PedalLayersModel", "keys", "(II)I"⟩, 9), (⟨"PedalLayersModel", "buriedOf", "(I)I"⟩, 9), (⟨"PedalLayersModel", "comesAt", "(I)Z"⟩, 9), (⟨"PedalLayersModel", "sumOf", "(I)I"⟩, 9), (⟨"PedalLayersModel", "greatest", "()I"⟩, 9)]
theorem lw_r4 : ∀ q ∈ lw_privs_4, lw_okq q := List.forall_mem_cons.mpr ⟨lw_p48, List.forall_mem_cons.mpr ⟨lw_p49, List.forall_mem_cons.mpr ⟨lw_p50, List.forall_mem_cons.mpr ⟨lw_p51, List.forall_mem_cons.mpr ⟨lw_p52, List.forall_mem_cons.mpr ⟨lw_p53, List.forall_mem_cons.mpr ⟨lw_p54, List.forall_mem_cons.mpr ⟨lw_p55, List.forall_mem_cons.mpr ⟨lw_p56, List.forall_mem_cons.mpr ⟨lw_p57, List.forall_mem_cons.mpr ⟨lw_p58, List.forall_mem_cons.mpr ⟨lw_p59, List.forall_mem_cons.mpr ⟨lw_p60, List.forall_mem_cons.mpr ⟨lw_p61, List.forall_mem_cons.mpr ⟨lw_p62, fun _ h => absurd h List.not_mem_nil⟩⟩⟩⟩⟩⟩⟩⟩⟩⟩⟩⟩⟩⟩⟩
def lw_privs : List (MethodName × Nat) := lw_privs_1 ++ (lw_privs_2 ++ (lw_privs_3 ++ (lw_privs_4)))
def lw_tbl : List Cond := k2_sels lw_privs ++ tables_1
theorem lw_privs_ok : ∀ q ∈ lw_privs, lw_okq q := by
  show ∀ q ∈ lw_privs_1 ++ (lw_privs_2 ++ (lw_privs_3 ++ (lw_privs_4))), lw_okq q
  exact List.forall_mem_append.mpr ⟨lw_r1, List.forall_mem_append.mpr ⟨lw_r2, List.forall_mem_append.mpr ⟨lw_r3, lw_r4⟩⟩⟩
/-- the streams that the claim lets the run draw from -/
abbrev lw_cs : List Choice := [Jvm.Choice.named "NaN.bits"]
theorem lw_bits : nanBits ∈ lw_cs := by first | decide | exact List.mem_cons_self | simp [lw_cs, nanBits]
def R_law : String := "PedalLayersLaw"
def RX0 : String := "PedalLayers$Ear"
def TX0 : u_T := fun k => match k with
  | 0 => ("PedalLayers$Ear", "rings", "[I", true)
  | 1 => ("PedalLayers$Ear", "buriedNotes", "[I", true)
  | 2 => ("PedalLayers$Ear", "highestKeys", "[I", true)
  | _ => ("PedalLayers$Ear", "tuneKeys", "[I", true)
def tyX0 : Nat → FieldType := fun k => match k with
  | 0 => .array .int
  | 1 => .array .int
  | 2 => .array .int
  | _ => .array .int
abbrev wsX00 : List Cond := u_ws RX0 TX0 4
theorem nmX0 : ∀ a, a < 4 → ∀ b, b < 4 → a ≠ b → (TX0 a).2.1 ≠ (TX0 b).2.1 := by decide +kernel
theorem tyX0_ok : ∀ k, k < 4 → parseFieldDescriptor (TX0 k).2.2.1 = some (tyX0 k) := by decide +kernel
abbrev cX0_init : ByteArray := prog_2_method_1_code
def yX0_init : MethodName := ⟨RX0, "<init>", "()V"⟩
abbrev cX0_listen : ByteArray := prog_2_method_2_code
def yX0_listen : MethodName := ⟨RX0, "listen", "(LPedalLayers$Pedal;II)V"⟩
abbrev cX0_ringOf : ByteArray := prog_2_method_3_code
def yX0_ringOf : MethodName := ⟨RX0, "ringOf", "(I)I"⟩
abbrev cX0_howManyKeys : ByteArray := prog_2_method_4_code
def yX0_howManyKeys : MethodName := ⟨RX0, "howManyKeys", "()I"⟩
abbrev cX0_sum : ByteArray := prog_2_method_5_code
def yX0_sum : MethodName := ⟨RX0, "sum", "()I"⟩
abbrev cX0_highestKey : ByteArray := prog_2_method_6_code
def yX0_highestKey : MethodName := ⟨RX0, "highestKey", "()I"⟩
abbrev cX0_lowestKey : ByteArray := prog_2_method_7_code
def yX0_lowestKey : MethodName := ⟨RX0, "lowestKey", "()I"⟩
abbrev cX0_strongestKey : ByteArray := prog_2_method_8_code
def yX0_strongestKey : MethodName := ⟨RX0, "strongestKey", "()I"⟩
abbrev cX0_sumOfCells : ByteArray := prog_2_method_9_code
def yX0_sumOfCells : MethodName := ⟨RX0, "sumOfCells", "(LPedalLayers$Pedal;I)I"⟩
abbrev cX0_silentCells : ByteArray := prog_2_method_10_code
def yX0_silentCells : MethodName := ⟨RX0, "silentCells", "(LPedalLayers$Pedal;I)I"⟩
abbrev cX0_loudestCell : ByteArray := prog_2_method_11_code
def yX0_loudestCell : MethodName := ⟨RX0, "loudestCell", "(LPedalLayers$Pedal;)I"⟩
abbrev cX0_mostBuriedLayer : ByteArray := prog_2_method_12_code
def yX0_mostBuriedLayer : MethodName := ⟨RX0, "mostBuriedLayer", "(LPedalLayers$Pedal;)I"⟩
abbrev cX0_buriedOf : ByteArray := prog_2_method_13_code
def yX0_buriedOf : MethodName := ⟨RX0, "buriedOf", "(LPedalLayers$Pedal;II)I"⟩
abbrev cX0_howOften : ByteArray := prog_2_method_14_code
def yX0_howOften : MethodName := ⟨RX0, "howOften", "(LPedalLayers$Pedal;LPedalLayers$Pad;)I"⟩
abbrev cX0_beginsAt : ByteArray := prog_2_method_15_code
def yX0_beginsAt : MethodName := ⟨RX0, "beginsAt", "(III)Z"⟩
def RX1 : String := "PedalLayers$Halt"
def TX1 : u_T := fun k => match k with
  | 0 => ("PedalLayers$Halt", "known", "Z", false)
  | 1 => ("PedalLayers$Halt", "error", "I", false)
  | 2 => ("PedalLayers$Halt", "number", "I", false)
  | _ => ("PedalLayers$Halt", "position", "I", false)
def tyX1 : Nat → FieldType := fun k => match k with
  | 0 => .boolean
  | 1 => .int
  | 2 => .int
  | _ => .int
abbrev wsX10 : List Cond := u_ws RX1 TX1 4
theorem nmX1 : ∀ a, a < 4 → ∀ b, b < 4 → a ≠ b → (TX1 a).2.1 ≠ (TX1 b).2.1 := by decide +kernel
theorem tyX1_ok : ∀ k, k < 4 → parseFieldDescriptor (TX1 k).2.2.1 = some (tyX1 k) := by decide +kernel
abbrev cX1_init : ByteArray := prog_3_method_1_code
def yX1_init : MethodName := ⟨RX1, "<init>", "()V"⟩
abbrev cX1_isKnown : ByteArray := prog_3_method_2_code
def yX1_isKnown : MethodName := ⟨RX1, "isKnown", "()Z"⟩
abbrev cX1_forget : ByteArray := prog_3_method_3_code
def yX1_forget : MethodName := ⟨RX1, "forget", "()V"⟩
abbrev cX1_keep : ByteArray := prog_3_method_4_code
def yX1_keep : MethodName := ⟨RX1, "keep", "(III)V"⟩
abbrev cX1_tell : ByteArray := prog_3_method_5_code
def yX1_tell : MethodName := ⟨RX1, "tell", "(I)I"⟩
def RX2 : String := "PedalLayers$History"
def TX2 : u_T := fun k => match k with
  | 0 => ("PedalLayers$History", "states", "[LPedalLayers$Pedal;", true)
  | 1 => ("PedalLayers$History", "oldest", "I", false)
  | _ => ("PedalLayers$History", "size", "I", false)
def tyX2 : Nat → FieldType := fun k => match k with
  | 0 => .array (.object "PedalLayers$Pedal")
  | 1 => .int
  | _ => .int
abbrev wsX20 : List Cond := u_ws RX2 TX2 3
theorem nmX2 : ∀ a, a < 3 → ∀ b, b < 3 → a ≠ b → (TX2 a).2.1 ≠ (TX2 b).2.1 := by decide +kernel
theorem tyX2_ok : ∀ k, k < 3 → parseFieldDescriptor (TX2 k).2.2.1 = some (tyX2 k) := by decide +kernel
abbrev cX2_init : ByteArray := prog_4_method_1_code
def yX2_init : MethodName := ⟨RX2, "<init>", "()V"⟩
abbrev cX2_size : ByteArray := prog_4_method_2_code
def yX2_size : MethodName := ⟨RX2, "size", "()I"⟩
abbrev cX2_stateAt : ByteArray := prog_4_method_3_code
def yX2_stateAt : MethodName := ⟨RX2, "stateAt", "(I)LPedalLayers$Pedal;"⟩
abbrev cX2_prepare : ByteArray := prog_4_method_4_code
def yX2_prepare : MethodName := ⟨RX2, "prepare", "(LPedalLayers$Pedal;)V"⟩
abbrev cX2_keep : ByteArray := prog_4_method_5_code
def yX2_keep : MethodName := ⟨RX2, "keep", "()V"⟩
abbrev cX2_takeLatest : ByteArray := prog_4_method_6_code
def yX2_takeLatest : MethodName := ⟨RX2, "takeLatest", "()LPedalLayers$Pedal;"⟩
def RX3 : String := "PedalLayers$Layer"
def TX3 : u_T := fun k => match k with
  | 0 => ("PedalLayers$Layer", "notes", "LPedalLayers$Notes;", true)
  | 1 => ("PedalLayers$Layer", "muted", "Z", false)
  | _ => ("PedalLayers$Layer", "passes", "I", false)
def tyX3 : Nat → FieldType := fun k => match k with
  | 0 => .object "PedalLayers$Notes"
  | 1 => .boolean
  | _ => .int
abbrev wsX30 : List Cond := u_ws RX3 TX3 3
theorem nmX3 : ∀ a, a < 3 → ∀ b, b < 3 → a ≠ b → (TX3 a).2.1 ≠ (TX3 b).2.1 := by decide +kernel
theorem tyX3_ok : ∀ k, k < 3 → parseFieldDescriptor (TX3 k).2.2.1 = some (tyX3 k) := by decide +kernel
abbrev cX3_init : ByteArray := prog_5_method_1_code
def yX3_init : MethodName := ⟨RX3, "<init>", "()V"⟩
abbrev cX3_copyFrom : ByteArray := prog_5_method_2_code
def yX3_copyFrom : MethodName := ⟨RX3, "copyFrom", "(LPedalLayers$Layer;)V"⟩
def RX4 : String := "PedalLayers$Notes"
def TX4 : u_T := fun k => match k with
  | 0 => ("PedalLayers$Notes", "forces", "[I", true)
  | _ => ("PedalLayers$Notes", "cells", "I", false)
def tyX4 : Nat → FieldType := fun k => match k with
  | 0 => .array .int
  | _ => .int
abbrev wsX40 : List Cond := u_ws RX4 TX4 2
theorem nmX4 : ∀ a, a < 2 → ∀ b, b < 2 → a ≠ b → (TX4 a).2.1 ≠ (TX4 b).2.1 := by decide +kernel
theorem tyX4_ok : ∀ k, k < 2 → parseFieldDescriptor (TX4 k).2.2.1 = some (tyX4 k) := by decide +kernel
abbrev cX4_init : ByteArray := prog_6_method_1_code
def yX4_init : MethodName := ⟨RX4, "<init>", "()V"⟩
abbrev cX4_cells : ByteArray := prog_6_method_2_code
def yX4_cells : MethodName := ⟨RX4, "cells", "()I"⟩
abbrev cX4_at : ByteArray := prog_6_method_3_code
def yX4_at : MethodName := ⟨RX4, "at", "(II)I"⟩
abbrev cX4_add : ByteArray := prog_6_method_4_code
def yX4_add : MethodName := ⟨RX4, "add", "(III)I"⟩
abbrev cX4_clear : ByteArray := prog_6_method_5_code
def yX4_clear : MethodName := ⟨RX4, "clear", "(I)V"⟩
abbrev cX4_copyFrom : ByteArray := prog_6_method_6_code
def yX4_copyFrom : MethodName := ⟨RX4, "copyFrom", "(LPedalLayers$Notes;I)V"⟩
abbrev cX4_fold : ByteArray := prog_6_method_7_code
def yX4_fold : MethodName := ⟨RX4, "fold", "(I)V"⟩
abbrev cX4_fade : ByteArray := prog_6_method_8_code
def yX4_fade : MethodName := ⟨RX4, "fade", "(I)V"⟩
abbrev cX4_howMany : ByteArray := prog_6_method_9_code
def yX4_howMany : MethodName := ⟨RX4, "howMany", "()I"⟩
abbrev cX4_sum : ByteArray := prog_6_method_10_code
def yX4_sum : MethodName := ⟨RX4, "sum", "()I"⟩
abbrev cX4_greatestFrom : ByteArray := prog_6_method_11_code
def yX4_greatestFrom : MethodName := ⟨RX4, "greatestFrom", "(I)I"⟩
def RX5 : String := "PedalLayers$OrderReading"
def TX5 : u_T := fun k => match k with
  | _ => ("", "", "", false)
def tyX5 : Nat → FieldType := fun k => match k with
  | _ => .int
abbrev wsX50 : List Cond := u_ws RX5 TX5 0
theorem nmX5 : ∀ a, a < 0 → ∀ b, b < 0 → a ≠ b → (TX5 a).2.1 ≠ (TX5 b).2.1 := by decide +kernel
theorem tyX5_ok : ∀ k, k < 0 → parseFieldDescriptor (TX5 k).2.2.1 = some (tyX5 k) := by decide +kernel
abbrev cX5_init : ByteArray := prog_7_method_1_code
def yX5_init : MethodName := ⟨RX5, "<init>", "()V"⟩
abbrev cX5_next : ByteArray := prog_7_method_2_code
def yX5_next : MethodName := ⟨RX5, "next", "(IC)I"⟩
abbrev cX5_letter : ByteArray := prog_7_method_3_code
def yX5_letter : MethodName := ⟨RX5, "letter", "(C)I"⟩
abbrev cX5_isComplete : ByteArray := prog_7_method_4_code
def yX5_isComplete : MethodName := ⟨RX5, "isComplete", "(I)Z"⟩
def RX6 : String := "PedalLayers$Pad"
def TX6 : u_T := fun k => match k with
  | 0 => ("PedalLayers$Pad", "signs", "[C", true)
  | _ => ("PedalLayers$Pad", "length", "I", false)
def tyX6 : Nat → FieldType := fun k => match k with
  | 0 => .array .char
  | _ => .int
abbrev wsX60 : List Cond := u_ws RX6 TX6 2
theorem nmX6 : ∀ a, a < 2 → ∀ b, b < 2 → a ≠ b → (TX6 a).2.1 ≠ (TX6 b).2.1 := by decide +kernel
theorem tyX6_ok : ∀ k, k < 2 → parseFieldDescriptor (TX6 k).2.2.1 = some (tyX6 k) := by decide +kernel
abbrev cX6_init : ByteArray := prog_8_method_1_code
def yX6_init : MethodName := ⟨RX6, "<init>", "()V"⟩
abbrev cX6_size : ByteArray := prog_8_method_2_code
def yX6_size : MethodName := ⟨RX6, "size", "()I"⟩
abbrev cX6_add : ByteArray := prog_8_method_3_code
def yX6_add : MethodName := ⟨RX6, "add", "(I)I"⟩
abbrev cX6_wipe : ByteArray := prog_8_method_4_code
def yX6_wipe : MethodName := ⟨RX6, "wipe", "()I"⟩
abbrev cX6_signAt : ByteArray := prog_8_method_5_code
def yX6_signAt : MethodName := ⟨RX6, "signAt", "(I)C"⟩
abbrev cX6_isLetter : ByteArray := prog_8_method_6_code
def yX6_isLetter : MethodName := ⟨RX6, "isLetter", "(I)Z"⟩
abbrev cX6_behindNumber : ByteArray := prog_8_method_7_code
def yX6_behindNumber : MethodName := ⟨RX6, "behindNumber", "(I)I"⟩
abbrev cX6_numberAt : ByteArray := prog_8_method_8_code
def yX6_numberAt : MethodName := ⟨RX6, "numberAt", "(I)I"⟩
abbrev cX6_firstFault : ByteArray := prog_8_method_9_code
def yX6_firstFault : MethodName := ⟨RX6, "firstFault", "(LPedalLayers$Reading;)I"⟩
abbrev cX6_readTune : ByteArray := prog_8_method_10_code
def yX6_readTune : MethodName := ⟨RX6, "readTune", "([I)I"⟩
abbrev cX6_isDigit : ByteArray := prog_8_method_11_code
def yX6_isDigit : MethodName := ⟨RX6, "isDigit", "(C)Z"⟩
def RX7 : String := "PedalLayers$Pedal"
def TX7 : u_T := fun k => match k with
  | 0 => ("PedalLayers$Pedal", "settings", "[I", true)
  | 1 => ("PedalLayers$Pedal", "layers", "[LPedalLayers$Layer;", true)
  | 2 => ("PedalLayers$Pedal", "take", "LPedalLayers$Take;", true)
  | 3 => ("PedalLayers$Pedal", "half", "Z", false)
  | 4 => ("PedalLayers$Pedal", "mode", "I", false)
  | 5 => ("PedalLayers$Pedal", "onLoop", "I", false)
  | 6 => ("PedalLayers$Pedal", "inDrawer", "I", false)
  | 7 => ("PedalLayers$Pedal", "place", "I", false)
  | 8 => ("PedalLayers$Pedal", "passes", "I", false)
  | 9 => ("PedalLayers$Pedal", "played", "I", false)
  | _ => ("PedalLayers$Pedal", "laid", "I", false)
def tyX7 : Nat → FieldType := fun k => match k with
  | 0 => .array .int
  | 1 => .array (.object "PedalLayers$Layer")
  | 2 => .object "PedalLayers$Take"
  | 3 => .boolean
  | 4 => .int
  | 5 => .int
  | 6 => .int
  | 7 => .int
  | 8 => .int
  | 9 => .int
  | _ => .int
abbrev wsX70 : List Cond := u_ws RX7 TX7 11
theorem nmX7 : ∀ a, a < 11 → ∀ b, b < 11 → a ≠ b → (TX7 a).2.1 ≠ (TX7 b).2.1 := by decide +kernel
theorem tyX7_ok : ∀ k, k < 11 → parseFieldDescriptor (TX7 k).2.2.1 = some (tyX7 k) := by decide +kernel
abbrev cX7_init : ByteArray := prog_9_method_1_code
def yX7_init : MethodName := ⟨RX7, "<init>", "()V"⟩
abbrev cX7_copyFrom : ByteArray := prog_9_method_2_code
def yX7_copyFrom : MethodName := ⟨RX7, "copyFrom", "(LPedalLayers$Pedal;)V"⟩
abbrev cX7_copyLayer : ByteArray := prog_9_method_3_code
def yX7_copyLayer : MethodName := ⟨RX7, "copyLayer", "(LPedalLayers$Layer;LPedalLayers$Layer;)V"⟩
abbrev cX7_layerAt : ByteArray := prog_9_method_4_code
def yX7_layerAt : MethodName := ⟨RX7, "layerAt", "(I)LPedalLayers$Layer;"⟩
abbrev cX7_layerOnLoop : ByteArray := prog_9_method_5_code
def yX7_layerOnLoop : MethodName := ⟨RX7, "layerOnLoop", "(I)LPedalLayers$Layer;"⟩
abbrev cX7_setting : ByteArray := prog_9_method_6_code
def yX7_setting : MethodName := ⟨RX7, "setting", "(I)I"⟩
abbrev cX7_takeRuns : ByteArray := prog_9_method_7_code
def yX7_takeRuns : MethodName := ⟨RX7, "takeRuns", "()Z"⟩
abbrev cX7_loopPlays : ByteArray := prog_9_method_8_code
def yX7_loopPlays : MethodName := ⟨RX7, "loopPlays", "()Z"⟩
abbrev cX7_loopLength : ByteArray := prog_9_method_9_code
def yX7_loopLength : MethodName := ⟨RX7, "loopLength", "(I)I"⟩
abbrev cX7_firstLength : ByteArray := prog_9_method_10_code
def yX7_firstLength : MethodName := ⟨RX7, "firstLength", "()I"⟩
abbrev cX7_isCell : ByteArray := prog_9_method_11_code
def yX7_isCell : MethodName := ⟨RX7, "isCell", "(I)Z"⟩
abbrev cX7_lowestHeardKey : ByteArray := prog_9_method_12_code
def yX7_lowestHeardKey : MethodName := ⟨RX7, "lowestHeardKey", "()I"⟩
abbrev cX7_soundingLayer : ByteArray := prog_9_method_13_code
def yX7_soundingLayer : MethodName := ⟨RX7, "soundingLayer", "(I)LPedalLayers$Layer;"⟩
abbrev cX7_greatestHeardForce : ByteArray := prog_9_method_14_code
def yX7_greatestHeardForce : MethodName := ⟨RX7, "greatestHeardForce", "()I"⟩
abbrev cX7_wholeBars : ByteArray := prog_9_method_15_code
def yX7_wholeBars : MethodName := ⟨RX7, "wholeBars", "(I)I"⟩
abbrev cX7_pressPedal : ByteArray := prog_9_method_16_code
def yX7_pressPedal : MethodName := ⟨RX7, "pressPedal", "()I"⟩
abbrev cX7_beginFirstTake : ByteArray := prog_9_method_17_code
def yX7_beginFirstTake : MethodName := ⟨RX7, "beginFirstTake", "()I"⟩
abbrev cX7_beginTakeOver : ByteArray := prog_9_method_18_code
def yX7_beginTakeOver : MethodName := ⟨RX7, "beginTakeOver", "()I"⟩
abbrev cX7_startLoop : ByteArray := prog_9_method_19_code
def yX7_startLoop : MethodName := ⟨RX7, "startLoop", "()I"⟩
abbrev cX7_endTake : ByteArray := prog_9_method_20_code
def yX7_endTake : MethodName := ⟨RX7, "endTake", "()I"⟩
abbrev cX7_lay : ByteArray := prog_9_method_21_code
def yX7_lay : MethodName := ⟨RX7, "lay", "(I)V"⟩
abbrev cX7_stopPedal : ByteArray := prog_9_method_22_code
def yX7_stopPedal : MethodName := ⟨RX7, "stopPedal", "()I"⟩
abbrev cX7_throwAllAway : ByteArray := prog_9_method_23_code
def yX7_throwAllAway : MethodName := ⟨RX7, "throwAllAway", "()I"⟩
abbrev cX7_hitNote : ByteArray := prog_9_method_24_code
def yX7_hitNote : MethodName := ⟨RX7, "hitNote", "(II)I"⟩
abbrev cX7_cellOfTake : ByteArray := prog_9_method_25_code
def yX7_cellOfTake : MethodName := ⟨RX7, "cellOfTake", "()I"⟩
abbrev cX7_runTicks : ByteArray := prog_9_method_26_code
def yX7_runTicks : MethodName := ⟨RX7, "runTicks", "(I)I"⟩
abbrev cX7_longestTake : ByteArray := prog_9_method_27_code
def yX7_longestTake : MethodName := ⟨RX7, "longestTake", "()I"⟩
abbrev cX7_moveLoop : ByteArray := prog_9_method_28_code
def yX7_moveLoop : MethodName := ⟨RX7, "moveLoop", "(I)I"⟩
abbrev cX7_fadeLayers : ByteArray := prog_9_method_29_code
def yX7_fadeLayers : MethodName := ⟨RX7, "fadeLayers", "()V"⟩
abbrev cX7_peelOff : ByteArray := prog_9_method_30_code
def yX7_peelOff : MethodName := ⟨RX7, "peelOff", "()I"⟩
abbrev cX7_putBack : ByteArray := prog_9_method_31_code
def yX7_putBack : MethodName := ⟨RX7, "putBack", "()I"⟩
abbrev cX7_switchMute : ByteArray := prog_9_method_32_code
def yX7_switchMute : MethodName := ⟨RX7, "switchMute", "(I)I"⟩
abbrev cX7_switchSpeed : ByteArray := prog_9_method_33_code
def yX7_switchSpeed : MethodName := ⟨RX7, "switchSpeed", "()I"⟩
abbrev cX7_changeSetting : ByteArray := prog_9_method_34_code
def yX7_changeSetting : MethodName := ⟨RX7, "changeSetting", "(II)I"⟩
def RX8 : String := "PedalLayers$Reading"
def TX8 : u_T := fun k => match k with
  | _ => ("", "", "", false)
def tyX8 : Nat → FieldType := fun k => match k with
  | _ => .int
abbrev wsX80 : List Cond := u_ws RX8 TX8 0
theorem nmX8 : ∀ a, a < 0 → ∀ b, b < 0 → a ≠ b → (TX8 a).2.1 ≠ (TX8 b).2.1 := by decide +kernel
theorem tyX8_ok : ∀ k, k < 0 → parseFieldDescriptor (TX8 k).2.2.1 = some (tyX8 k) := by decide +kernel
abbrev cX8_init : ByteArray := prog_10_method_1_code
def yX8_init : MethodName := ⟨RX8, "<init>", "()V"⟩
def RX9 : String := "PedalLayers$Take"
def TX9 : u_T := fun k => match k with
  | 0 => ("PedalLayers$Take", "notes", "LPedalLayers$Notes;", true)
  | 1 => ("PedalLayers$Take", "halves", "I", false)
  | _ => ("PedalLayers$Take", "start", "I", false)
def tyX9 : Nat → FieldType := fun k => match k with
  | 0 => .object "PedalLayers$Notes"
  | 1 => .int
  | _ => .int
abbrev wsX90 : List Cond := u_ws RX9 TX9 3
theorem nmX9 : ∀ a, a < 3 → ∀ b, b < 3 → a ≠ b → (TX9 a).2.1 ≠ (TX9 b).2.1 := by decide +kernel
theorem tyX9_ok : ∀ k, k < 3 → parseFieldDescriptor (TX9 k).2.2.1 = some (tyX9 k) := by decide +kernel
abbrev cX9_init : ByteArray := prog_11_method_1_code
def yX9_init : MethodName := ⟨RX9, "<init>", "()V"⟩
abbrev cX9_begin : ByteArray := prog_11_method_2_code
def yX9_begin : MethodName := ⟨RX9, "begin", "(II)V"⟩
abbrev cX9_copyFrom : ByteArray := prog_11_method_3_code
def yX9_copyFrom : MethodName := ⟨RX9, "copyFrom", "(LPedalLayers$Take;)V"⟩
def RX10 : String := "PedalLayers$TuneReading"
def TX10 : u_T := fun k => match k with
  | _ => ("", "", "", false)
def tyX10 : Nat → FieldType := fun k => match k with
  | _ => .int
abbrev wsX100 : List Cond := u_ws RX10 TX10 0
theorem nmX10 : ∀ a, a < 0 → ∀ b, b < 0 → a ≠ b → (TX10 a).2.1 ≠ (TX10 b).2.1 := by decide +kernel
theorem tyX10_ok : ∀ k, k < 0 → parseFieldDescriptor (TX10 k).2.2.1 = some (tyX10 k) := by decide +kernel
abbrev cX10_init : ByteArray := prog_12_method_1_code
def yX10_init : MethodName := ⟨RX10, "<init>", "()V"⟩
abbrev cX10_next : ByteArray := prog_12_method_2_code
def yX10_next : MethodName := ⟨RX10, "next", "(IC)I"⟩
abbrev cX10_behindFirstDigit : ByteArray := prog_12_method_3_code
def yX10_behindFirstDigit : MethodName := ⟨RX10, "behindFirstDigit", "(C)I"⟩
abbrev cX10_isComplete : ByteArray := prog_12_method_4_code
def yX10_isComplete : MethodName := ⟨RX10, "isComplete", "(I)Z"⟩
def RX11 : String := "PedalLayers"
def TX11 : u_T := fun k => match k with
  | 0 => ("PedalLayers", "now", "LPedalLayers$Pedal;", true)
  | 1 => ("PedalLayers", "snapshot", "LPedalLayers$Pedal;", true)
  | 2 => ("PedalLayers", "history", "LPedalLayers$History;", true)
  | 3 => ("PedalLayers", "pad", "LPedalLayers$Pad;", true)
  | 4 => ("PedalLayers", "orders", "LPedalLayers$OrderReading;", true)
  | 5 => ("PedalLayers", "tune", "LPedalLayers$TuneReading;", true)
  | 6 => ("PedalLayers", "halt", "LPedalLayers$Halt;", true)
  | 7 => ("PedalLayers", "ear", "LPedalLayers$Ear;", true)
  | _ => ("PedalLayers", "snapshotTaken", "Z", false)
def tyX11 : Nat → FieldType := fun k => match k with
  | 0 => .object "PedalLayers$Pedal"
  | 1 => .object "PedalLayers$Pedal"
  | 2 => .object "PedalLayers$History"
  | 3 => .object "PedalLayers$Pad"
  | 4 => .object "PedalLayers$OrderReading"
  | 5 => .object "PedalLayers$TuneReading"
  | 6 => .object "PedalLayers$Halt"
  | 7 => .object "PedalLayers$Ear"
  | _ => .boolean
abbrev wsX110 : List Cond := u_ws RX11 TX11 9
theorem nmX11 : ∀ a, a < 9 → ∀ b, b < 9 → a ≠ b → (TX11 a).2.1 ≠ (TX11 b).2.1 := by decide +kernel
theorem tyX11_ok : ∀ k, k < 9 → parseFieldDescriptor (TX11 k).2.2.1 = some (tyX11 k) := by decide +kernel
abbrev cX11_init : ByteArray := prog_1_method_1_code
def yX11_init : MethodName := ⟨RX11, "<init>", "()V"⟩
abbrev cX11_press : ByteArray := prog_1_method_2_code
def yX11_press : MethodName := ⟨RX11, "press", "()I"⟩
abbrev cX11_stop : ByteArray := prog_1_method_3_code
def yX11_stop : MethodName := ⟨RX11, "stop", "()I"⟩
abbrev cX11_empty : ByteArray := prog_1_method_4_code
def yX11_empty : MethodName := ⟨RX11, "empty", "()I"⟩
abbrev cX11_hit : ByteArray := prog_1_method_5_code
def yX11_hit : MethodName := ⟨RX11, "hit", "(II)I"⟩
abbrev cX11_pass : ByteArray := prog_1_method_6_code
def yX11_pass : MethodName := ⟨RX11, "pass", "(I)I"⟩
abbrev cX11_peel : ByteArray := prog_1_method_7_code
def yX11_peel : MethodName := ⟨RX11, "peel", "()I"⟩
abbrev cX11_back : ByteArray := prog_1_method_8_code
def yX11_back : MethodName := ⟨RX11, "back", "()I"⟩
abbrev cX11_mute : ByteArray := prog_1_method_9_code
def yX11_mute : MethodName := ⟨RX11, "mute", "(I)I"⟩
abbrev cX11_speed : ByteArray := prog_1_method_10_code
def yX11_speed : MethodName := ⟨RX11, "speed", "()I"⟩
abbrev cX11_set : ByteArray := prog_1_method_11_code
def yX11_set : MethodName := ⟨RX11, "set", "(II)I"⟩
abbrev cX11_append : ByteArray := prog_1_method_12_code
def yX11_append : MethodName := ⟨RX11, "append", "(I)I"⟩
abbrev cX11_erase : ByteArray := prog_1_method_13_code
def yX11_erase : MethodName := ⟨RX11, "erase", "()I"⟩
abbrev cX11_fault : ByteArray := prog_1_method_14_code
def yX11_fault : MethodName := ⟨RX11, "fault", "(I)I"⟩
abbrev cX11_play : ByteArray := prog_1_method_15_code
def yX11_play : MethodName := ⟨RX11, "play", "()I"⟩
abbrev cX11_why : ByteArray := prog_1_method_16_code
def yX11_why : MethodName := ⟨RX11, "why", "(I)I"⟩
abbrev cX11_layer : ByteArray := prog_1_method_17_code
def yX11_layer : MethodName := ⟨RX11, "layer", "(II)I"⟩
abbrev cX11_note : ByteArray := prog_1_method_18_code
def yX11_note : MethodName := ⟨RX11, "note", "(III)I"⟩
abbrev cX11_ring : ByteArray := prog_1_method_19_code
def yX11_ring : MethodName := ⟨RX11, "ring", "(II)I"⟩
abbrev cX11_heard : ByteArray := prog_1_method_20_code
def yX11_heard : MethodName := ⟨RX11, "heard", "(II)I"⟩
abbrev cX11_loudest : ByteArray := prog_1_method_21_code
def yX11_loudest : MethodName := ⟨RX11, "loudest", "()I"⟩
abbrev cX11_buried : ByteArray := prog_1_method_22_code
def yX11_buried : MethodName := ⟨RX11, "buried", "()I"⟩
abbrev cX11_tunes : ByteArray := prog_1_method_23_code
def yX11_tunes : MethodName := ⟨RX11, "tunes", "()I"⟩
abbrev cX11_count : ByteArray := prog_1_method_24_code
def yX11_count : MethodName := ⟨RX11, "count", "(I)I"⟩
abbrev cX11_loudness : ByteArray := prog_1_method_25_code
def yX11_loudness : MethodName := ⟨RX11, "loudness", "()D"⟩
abbrev cX11_barIn : ByteArray := prog_1_method_26_code
def yX11_barIn : MethodName := ⟨RX11, "barIn", "()I"⟩
abbrev cX11_drift : ByteArray := prog_1_method_27_code
def yX11_drift : MethodName := ⟨RX11, "drift", "(I)I"⟩
abbrev cX11_meets : ByteArray := prog_1_method_28_code
def yX11_meets : MethodName := ⟨RX11, "meets", "()I"⟩
abbrev cX11_rounded : ByteArray := prog_1_method_29_code
def yX11_rounded : MethodName := ⟨RX11, "rounded", "(I)I"⟩
abbrev cX11_silentIn : ByteArray := prog_1_method_30_code
def yX11_silentIn : MethodName := ⟨RX11, "silentIn", "()I"⟩
abbrev cX11_ifPeeled : ByteArray := prog_1_method_31_code
def yX11_ifPeeled : MethodName := ⟨RX11, "ifPeeled", "(II)I"⟩
abbrev cX11_undo : ByteArray := prog_1_method_32_code
def yX11_undo : MethodName := ⟨RX11, "undo", "()I"⟩
abbrev cX11_save : ByteArray := prog_1_method_33_code
def yX11_save : MethodName := ⟨RX11, "save", "()I"⟩
abbrev cX11_restore : ByteArray := prog_1_method_34_code
def yX11_restore : MethodName := ⟨RX11, "restore", "()I"⟩
abbrev cX11_settle : ByteArray := prog_1_method_35_code
def yX11_settle : MethodName := ⟨RX11, "settle", "(I)I"⟩
abbrev cX11_carryOut : ByteArray := prog_1_method_36_code
def yX11_carryOut : MethodName := ⟨RX11, "carryOut", "(I)I"⟩
abbrev cX11_isKey : ByteArray := prog_1_method_37_code
def yX11_isKey : MethodName := ⟨RX11, "isKey", "(I)Z"⟩
abbrev cX11_isValueOf : ByteArray := prog_1_method_38_code
def yX11_isValueOf : MethodName := ⟨RX11, "isValueOf", "(II)Z"⟩
abbrev cX11_rest : ByteArray := prog_1_method_39_code
def yX11_rest : MethodName := ⟨RX11, "rest", "(II)I"⟩
abbrev cX11_untilMultiple : ByteArray := prog_1_method_40_code
def yX11_untilMultiple : MethodName := ⟨RX11, "untilMultiple", "(II)I"⟩
abbrev cX11_faded : ByteArray := prog_1_method_41_code
def yX11_faded : MethodName := ⟨RX11, "faded", "(II)I"⟩
def RX12 : String := "PedalLayersModel"
def TX12 : u_T := fun k => match k with
  | 0 => ("PedalLayersModel", "s", "[J", true)
  | 1 => ("PedalLayersModel", "past", "[J", true)
  | 2 => ("PedalLayersModel", "known", "I", false)
  | 3 => ("PedalLayersModel", "snap", "[J", true)
  | 4 => ("PedalLayersModel", "isSaved", "Z", false)
  | 5 => ("PedalLayersModel", "pad", "[I", true)
  | 6 => ("PedalLayersModel", "length", "I", false)
  | 7 => ("PedalLayersModel", "stopped", "[I", true)
  | _ => ("PedalLayersModel", "isStopped", "Z", false)
def tyX12 : Nat → FieldType := fun k => match k with
  | 0 => .array .long
  | 1 => .array .long
  | 2 => .int
  | 3 => .array .long
  | 4 => .boolean
  | 5 => .array .int
  | 6 => .int
  | 7 => .array .int
  | _ => .boolean
abbrev wsX120 : List Cond := u_ws RX12 TX12 9
theorem nmX12 : ∀ a, a < 9 → ∀ b, b < 9 → a ≠ b → (TX12 a).2.1 ≠ (TX12 b).2.1 := by decide +kernel
theorem tyX12_ok : ∀ k, k < 9 → parseFieldDescriptor (TX12 k).2.2.1 = some (tyX12 k) := by decide +kernel
abbrev cX12_init : ByteArray := prog_14_method_1_code
def yX12_init : MethodName := ⟨RX12, "<init>", "()V"⟩
abbrev cX12_in : ByteArray := prog_14_method_3_code
def yX12_in : MethodName := ⟨RX12, "in", "(III)Z"⟩
abbrev cX12_of : ByteArray := prog_14_method_4_code
def yX12_of : MethodName := ⟨RX12, "of", "(I)I"⟩
abbrev cX12_remembers : ByteArray := prog_14_method_5_code
def yX12_remembers : MethodName := ⟨RX12, "remembers", "()V"⟩
abbrev cX12_force : ByteArray := prog_14_method_6_code
def yX12_force : MethodName := ⟨RX12, "force", "(III)I"⟩
abbrev cX12_sets : ByteArray := prog_14_method_7_code
def yX12_sets : MethodName := ⟨RX12, "sets", "(IIII)V"⟩
abbrev cX12_clears : ByteArray := prog_14_method_8_code
def yX12_clears : MethodName := ⟨RX12, "clears", "(I)V"⟩
abbrev cX12_both : ByteArray := prog_14_method_9_code
def yX12_both : MethodName := ⟨RX12, "both", "(II)I"⟩
abbrev cX12_isLayer : ByteArray := prog_14_method_10_code
def yX12_isLayer : MethodName := ⟨RX12, "isLayer", "(I)Z"⟩
abbrev cX12_lengthOf : ByteArray := prog_14_method_11_code
def yX12_lengthOf : MethodName := ⟨RX12, "lengthOf", "(I)I"⟩
abbrev cX12_loop : ByteArray := prog_14_method_12_code
def yX12_loop : MethodName := ⟨RX12, "loop", "()I"⟩
abbrev cX12_runsTake : ByteArray := prog_14_method_13_code
def yX12_runsTake : MethodName := ⟨RX12, "runsTake", "()Z"⟩
abbrev cX12_starts : ByteArray := prog_14_method_14_code
def yX12_starts : MethodName := ⟨RX12, "starts", "()V"⟩
abbrev cX12_beginsTake : ByteArray := prog_14_method_15_code
def yX12_beginsTake : MethodName := ⟨RX12, "beginsTake", "()V"⟩
abbrev cX12_endsTake : ByteArray := prog_14_method_16_code
def yX12_endsTake : MethodName := ⟨RX12, "endsTake", "()V"⟩
abbrev cX12_lays : ByteArray := prog_14_method_17_code
def yX12_lays : MethodName := ⟨RX12, "lays", "(II)V"⟩
abbrev cX12_roundedOf : ByteArray := prog_14_method_18_code
def yX12_roundedOf : MethodName := ⟨RX12, "roundedOf", "(I)I"⟩
abbrev cX12_endsFirst : ByteArray := prog_14_method_19_code
def yX12_endsFirst : MethodName := ⟨RX12, "endsFirst", "()V"⟩
abbrev cX12_endsOver : ByteArray := prog_14_method_20_code
def yX12_endsOver : MethodName := ⟨RX12, "endsOver", "()V"⟩
abbrev cX12_whyNotPress : ByteArray := prog_14_method_21_code
def yX12_whyNotPress : MethodName := ⟨RX12, "whyNotPress", "()I"⟩
abbrev cX12_presses : ByteArray := prog_14_method_22_code
def yX12_presses : MethodName := ⟨RX12, "presses", "()V"⟩
abbrev cX12_whyNotStop : ByteArray := prog_14_method_23_code
def yX12_whyNotStop : MethodName := ⟨RX12, "whyNotStop", "()I"⟩
abbrev cX12_stops : ByteArray := prog_14_method_24_code
def yX12_stops : MethodName := ⟨RX12, "stops", "()V"⟩
abbrev cX12_fades : ByteArray := prog_14_method_25_code
def yX12_fades : MethodName := ⟨RX12, "fades", "()V"⟩
abbrev cX12_ticks : ByteArray := prog_14_method_26_code
def yX12_ticks : MethodName := ⟨RX12, "ticks", "()I"⟩
abbrev cX12_passes : ByteArray := prog_14_method_27_code
def yX12_passes : MethodName := ⟨RX12, "passes", "(I)I"⟩
abbrev cX12_whyNotHit : ByteArray := prog_14_method_28_code
def yX12_whyNotHit : MethodName := ⟨RX12, "whyNotHit", "(II)I"⟩
abbrev cX12_hits : ByteArray := prog_14_method_29_code
def yX12_hits : MethodName := ⟨RX12, "hits", "(II)I"⟩
abbrev cX12_whyNotPeel : ByteArray := prog_14_method_30_code
def yX12_whyNotPeel : MethodName := ⟨RX12, "whyNotPeel", "()I"⟩
abbrev cX12_peels : ByteArray := prog_14_method_31_code
def yX12_peels : MethodName := ⟨RX12, "peels", "()V"⟩
abbrev cX12_whyNotBack : ByteArray := prog_14_method_32_code
def yX12_whyNotBack : MethodName := ⟨RX12, "whyNotBack", "()I"⟩
abbrev cX12_backs : ByteArray := prog_14_method_33_code
def yX12_backs : MethodName := ⟨RX12, "backs", "()V"⟩
abbrev cX12_press : ByteArray := prog_14_method_34_code
def yX12_press : MethodName := ⟨RX12, "press", "()I"⟩
abbrev cX12_stop : ByteArray := prog_14_method_35_code
def yX12_stop : MethodName := ⟨RX12, "stop", "()I"⟩
abbrev cX12_empty : ByteArray := prog_14_method_36_code
def yX12_empty : MethodName := ⟨RX12, "empty", "()I"⟩
abbrev cX12_hit : ByteArray := prog_14_method_37_code
def yX12_hit : MethodName := ⟨RX12, "hit", "(II)I"⟩
abbrev cX12_pass : ByteArray := prog_14_method_38_code
def yX12_pass : MethodName := ⟨RX12, "pass", "(I)I"⟩
abbrev cX12_peel : ByteArray := prog_14_method_39_code
def yX12_peel : MethodName := ⟨RX12, "peel", "()I"⟩
abbrev cX12_back : ByteArray := prog_14_method_40_code
def yX12_back : MethodName := ⟨RX12, "back", "()I"⟩
abbrev cX12_mute : ByteArray := prog_14_method_41_code
def yX12_mute : MethodName := ⟨RX12, "mute", "(I)I"⟩
abbrev cX12_speed : ByteArray := prog_14_method_42_code
def yX12_speed : MethodName := ⟨RX12, "speed", "()I"⟩
abbrev cX12_set : ByteArray := prog_14_method_43_code
def yX12_set : MethodName := ⟨RX12, "set", "(II)I"⟩
abbrev cX12_append : ByteArray := prog_14_method_44_code
def yX12_append : MethodName := ⟨RX12, "append", "(I)I"⟩
abbrev cX12_erase : ByteArray := prog_14_method_45_code
def yX12_erase : MethodName := ⟨RX12, "erase", "()I"⟩
abbrev cX12_sign : ByteArray := prog_14_method_46_code
def yX12_sign : MethodName := ⟨RX12, "sign", "(I)I"⟩
abbrev cX12_digit : ByteArray := prog_14_method_47_code
def yX12_digit : MethodName := ⟨RX12, "digit", "(I)I"⟩
abbrev cX12_numberEnd : ByteArray := prog_14_method_48_code
def yX12_numberEnd : MethodName := ⟨RX12, "numberEnd", "(III)I"⟩
abbrev cX12_numberAt : ByteArray := prog_14_method_49_code
def yX12_numberAt : MethodName := ⟨RX12, "numberAt", "(I)I"⟩
abbrev cX12_behind : ByteArray := prog_14_method_50_code
def yX12_behind : MethodName := ⟨RX12, "behind", "(II)I"⟩
abbrev cX12_orderEnd : ByteArray := prog_14_method_51_code
def yX12_orderEnd : MethodName := ⟨RX12, "orderEnd", "(I)I"⟩
abbrev cX12_faultOf : ByteArray := prog_14_method_52_code
def yX12_faultOf : MethodName := ⟨RX12, "faultOf", "(I)I"⟩
abbrev cX12_fault : ByteArray := prog_14_method_53_code
def yX12_fault : MethodName := ⟨RX12, "fault", "(I)I"⟩
abbrev cX12_carries : ByteArray := prog_14_method_54_code
def yX12_carries : MethodName := ⟨RX12, "carries", "(I)I"⟩
abbrev cX12_goes : ByteArray := prog_14_method_55_code
def yX12_goes : MethodName := ⟨RX12, "goes", "(II)I"⟩
abbrev cX12_play : ByteArray := prog_14_method_56_code
def yX12_play : MethodName := ⟨RX12, "play", "()I"⟩
abbrev cX12_why : ByteArray := prog_14_method_57_code
def yX12_why : MethodName := ⟨RX12, "why", "(I)I"⟩
abbrev cX12_forces : ByteArray := prog_14_method_58_code
def yX12_forces : MethodName := ⟨RX12, "forces", "(III)I"⟩
abbrev cX12_layer : ByteArray := prog_14_method_59_code
def yX12_layer : MethodName := ⟨RX12, "layer", "(II)I"⟩
abbrev cX12_note : ByteArray := prog_14_method_60_code
def yX12_note : MethodName := ⟨RX12, "note", "(III)I"⟩
abbrev cX12_adds : ByteArray := prog_14_method_61_code
def yX12_adds : MethodName := ⟨RX12, "adds", "(III)I"⟩
abbrev cX12_ringOf : ByteArray := prog_14_method_62_code
def yX12_ringOf : MethodName := ⟨RX12, "ringOf", "(III)I"⟩
abbrev cX12_sumIn : ByteArray := prog_14_method_63_code
def yX12_sumIn : MethodName := ⟨RX12, "sumIn", "(II)I"⟩
abbrev cX12_isCell : ByteArray := prog_14_method_64_code
def yX12_isCell : MethodName := ⟨RX12, "isCell", "(I)Z"⟩
abbrev cX12_ring : ByteArray := prog_14_method_65_code
def yX12_ring : MethodName := ⟨RX12, "ring", "(II)I"⟩
abbrev cX12_keys : ByteArray := prog_14_method_66_code
def yX12_keys : MethodName := ⟨RX12, "keys", "(II)I"⟩
abbrev cX12_heard : ByteArray := prog_14_method_67_code
def yX12_heard : MethodName := ⟨RX12, "heard", "(II)I"⟩
abbrev cX12_loudest : ByteArray := prog_14_method_68_code
def yX12_loudest : MethodName := ⟨RX12, "loudest", "()I"⟩
abbrev cX12_buriedOf : ByteArray := prog_14_method_69_code
def yX12_buriedOf : MethodName := ⟨RX12, "buriedOf", "(I)I"⟩
abbrev cX12_buried : ByteArray := prog_14_method_70_code
def yX12_buried : MethodName := ⟨RX12, "buried", "()I"⟩
abbrev cX12_comesAt : ByteArray := prog_14_method_71_code
def yX12_comesAt : MethodName := ⟨RX12, "comesAt", "(I)Z"⟩
abbrev cX12_tunes : ByteArray := prog_14_method_72_code
def yX12_tunes : MethodName := ⟨RX12, "tunes", "()I"⟩
abbrev cX12_count : ByteArray := prog_14_method_73_code
def yX12_count : MethodName := ⟨RX12, "count", "(I)I"⟩
abbrev cX12_sumOf : ByteArray := prog_14_method_74_code
def yX12_sumOf : MethodName := ⟨RX12, "sumOf", "(I)I"⟩
abbrev cX12_loudness : ByteArray := prog_14_method_75_code
def yX12_loudness : MethodName := ⟨RX12, "loudness", "()D"⟩
abbrev cX12_barIn : ByteArray := prog_14_method_76_code
def yX12_barIn : MethodName := ⟨RX12, "barIn", "()I"⟩
abbrev cX12_drift : ByteArray := prog_14_method_77_code
def yX12_drift : MethodName := ⟨RX12, "drift", "(I)I"⟩
abbrev cX12_meets : ByteArray := prog_14_method_78_code
def yX12_meets : MethodName := ⟨RX12, "meets", "()I"⟩
abbrev cX12_rounded : ByteArray := prog_14_method_79_code
def yX12_rounded : MethodName := ⟨RX12, "rounded", "(I)I"⟩
abbrev cX12_greatest : ByteArray := prog_14_method_80_code
def yX12_greatest : MethodName := ⟨RX12, "greatest", "()I"⟩
abbrev cX12_silentIn : ByteArray := prog_14_method_81_code
def yX12_silentIn : MethodName := ⟨RX12, "silentIn", "()I"⟩
abbrev cX12_ifPeeled : ByteArray := prog_14_method_82_code
def yX12_ifPeeled : MethodName := ⟨RX12, "ifPeeled", "(II)I"⟩
abbrev cX12_undo : ByteArray := prog_14_method_83_code
def yX12_undo : MethodName := ⟨RX12, "undo", "()I"⟩
abbrev cX12_save : ByteArray := prog_14_method_84_code
def yX12_save : MethodName := ⟨RX12, "save", "()I"⟩
abbrev cX12_restore : ByteArray := prog_14_method_85_code
def yX12_restore : MethodName := ⟨RX12, "restore", "()I"⟩
def RL : String := "PedalLayersLaw"
abbrev cL_law : ByteArray := code
def yL_law : MethodName := ⟨RL, "law", "([I)Z"⟩
abbrev vwCl : List vw_C := [(RX0, TX0, 4), (RX1, TX1, 4), (RX2, TX2, 3), (RX3, TX3, 3), (RX4, TX4, 2), (RX5, TX5, 0), (RX6, TX6, 2), (RX7, TX7, 11), (RX9, TX9, 3), (RX10, TX10, 0), (RX11, TX11, 9), (RX12, TX12, 9)]
end
section
/-! the code of all methods as tables: instruction, length, kind, two numbers, the place of its word in lw_tbl -/
abbrev xQ : Type := ClassFile.Instr × Nat × Nat × Nat × Nat × Nat
def xk_0 : List (Option xQ) := [some (.aload_n 0, 1, 0, 0, 0, 0), some (.invokespecial 3, 3, 6, 0, 0, 272), none, none, some (.aload_n 0, 1, 0, 0, 0, 0), some (.bipush 36, 2, 0, 0, 0, 0), none, some (.newarray .int, 2, 0, 100, 0, 114), none, some (.putfield 9, 3, 0, 0, 0, 273), none, none, some (.aload_n 0, 1, 0, 0, 0, 0), some (.bipush 6, 2, 0, 0, 0, 0), none, some (.newarray .int, 2, 0, 100, 0, 114), none, some (.putfield 15, 3, 0, 0, 1, 274), none, none, some (.aload_n 0, 1, 0, 0, 0, 0), some (.bipush 48, 2, 0, 0, 0, 0), none, some (.newarray .int, 2, 0, 100, 0, 114), none, some (.putfield 18, 3, 0, 0, 2, 275), none, none, some (.aload_n 0, 1, 0, 0, 0, 0), some (.bipush 60, 2, 0, 0, 0, 0), none, some (.newarray .int, 2, 0, 100, 0, 114), none, some (.putfield 21, 3, 0, 0, 3, 276), none, none, some (.return_, 1, 0, 0, 0, 0)]
def xk_1 : List (Option xQ) := [some (.iconst 0, 1, 0, 0, 0, 0), some (.istore 4, 2, 0, 0, 0, 0), none, some (.iload 4, 2, 0, 0, 0, 0), none, some (.aload_n 0, 1, 0, 0, 0, 0), some (.getfield 9, 3, 0, 0, 0, 273), none, none, some (.arraylength, 1, 0, 0, 0, 0), some (.if_icmp .ge 17, 3, 0, 0, 0, 0), none, none, some (.aload_n 0, 1, 0, 0, 0, 0), some (.getfield 9, 3, 0, 0, 0, 273), none, none, some (.iload 4, 2, 0, 0, 0, 0), none, some (.iconst 0, 1, 0, 0, 0, 0), some (.iastore, 1, 0, 0, 0, 0), some (.iinc 4 1, 3, 0, 0, 0, 0), none, none, some (.goto (-21), 3, 0, 0, 0, 0), none, none, some (.aload_n 1, 1, 0, 0, 0, 0), some (.invokevirtual 24, 3, 0, 65, 0, 704), none, none, some (.istore 4, 2, 0, 0, 0, 0), none, some (.iconst 0, 1, 0, 0, 0, 0), some (.istore 5, 2, 0, 0, 0, 0), none, some (.iload 5, 2, 0, 0, 0, 0), none, some (.iload_n 2, 1, 0, 0, 0, 0), some (.if_icmp .ge 83, 3, 0, 0, 0, 0), none, none, some (.aload_n 1, 1, 0, 0, 0, 0), some (.iload 5, 2, 0, 0, 0, 0), none, some (.invokevirtual 30, 3, 0, 66, 0, 705), none, none, some (.astore 6, 2, 0, 0, 0, 0), none, some (.aload 6, 2, 0, 0, 0, 0), none, some (.ifnonnull 6, 3, 0, 0, 0, 0), none, none, some (.goto 61, 3, 0, 0, 0, 0), none, none, some (.iload_n 3, 1, 0, 0, 0, 0), some (.aload 6, 2, 0, 0, 0, 0), none, some (.getfield 34, 3, 1, 3, 0, 138), none, none, some (.invokevirtual 40, 3, 0, 29, 0, 709), none, none, some (.invokestatic 45, 3, 1, 134, 0, 710), none, none, some (.istore 7, 2, 0, 0, 0, 0), none, some (.iconst 0, 1, 0, 0, 0, 0), some (.istore 8, 2, 0, 0, 0, 0), none, some (.iload 8, 2, 0, 0, 0, 0), none, some (.aload_n 0, 1, 0, 0, 0, 0), some (.getfield 9, 3, 0, 0, 0, 273), none, none, some (.arraylength, 1, 0, 0, 0, 0), some (.if_icmp .ge 34, 3, 0, 0, 0, 0), none, none, some (.aload_n 0, 1, 0, 0, 0, 0), some (.getfield 9, 3, 0, 0, 0, 273), none, none, some (.iload 8, 2, 0, 0, 0, 0), none, some (.dup2, 1, 0, 0, 0, 0), some (.iaload, 1, 0, 0, 0, 0), some (.aload 6, 2, 0, 0, 0, 0), none, some (.getfield 34, 3, 1, 3, 0, 138), none, none, some (.iload 7, 2, 0, 0, 0, 0), none, some (.iload 8, 2, 0, 0, 0, 0), none, some (.iload 4, 2, 0, 0, 0, 0), none, some (.iadd, 1, 0, 0, 0, 0), some (.invokevirtual 49, 3, 0, 30, 0, 711), none, none, some (.iadd, 1, 0, 0, 0, 0), some (.iastore, 1, 0, 0, 0, 0), some (.iinc 8 1, 3, 0, 0, 0, 0), none, none, some (.goto (-38), 3, 0, 0, 0, 0), none, none, some (.iinc 5 1, 3, 0, 0, 0, 0), none, none, some (.goto (-83), 3, 0, 0, 0, 0), none, none, some (.return_, 1, 0, 0, 0, 0)]
def xk_2 : List (Option xQ) := [some (.iload_n 1, 1, 0, 0, 0, 0), some (.ifCond .lt 21, 3, 0, 0, 0, 0), none, none, some (.iload_n 1, 1, 0, 0, 0, 0), some (.aload_n 0, 1, 0, 0, 0, 0), some (.getfield 9, 3, 0, 0, 0, 273), none, none, some (.arraylength, 1, 0, 0, 0, 0), some (.if_icmp .ge 12, 3, 0, 0, 0, 0), none, none, some (.aload_n 0, 1, 0, 0, 0, 0), some (.getfield 9, 3, 0, 0, 0, 273), none, none, some (.iload_n 1, 1, 0, 0, 0, 0), some (.iaload, 1, 0, 0, 0, 0), some (.goto 4, 3, 0, 0, 0, 0), none, none, some (.iconst 0, 1, 0, 0, 0, 0), some (.ireturn, 1, 0, 0, 0, 0)]
def xk_3 : List (Option xQ) := [some (.iconst 0, 1, 0, 0, 0, 0), some (.istore_n 1, 1, 0, 0, 0, 0), some (.aload_n 0, 1, 0, 0, 0, 0), some (.getfield 9, 3, 0, 0, 0, 273), none, none, some (.astore_n 2, 1, 0, 0, 0, 0), some (.aload_n 2, 1, 0, 0, 0, 0), some (.arraylength, 1, 0, 0, 0, 0), some (.istore_n 3, 1, 0, 0, 0, 0), some (.iconst 0, 1, 0, 0, 0, 0), some (.istore 4, 2, 0, 0, 0, 0), none, some (.iload 4, 2, 0, 0, 0, 0), none, some (.iload_n 3, 1, 0, 0, 0, 0), some (.if_icmp .ge 23, 3, 0, 0, 0, 0), none, none, some (.aload_n 2, 1, 0, 0, 0, 0), some (.iload 4, 2, 0, 0, 0, 0), none, some (.iaload, 1, 0, 0, 0, 0), some (.istore 5, 2, 0, 0, 0, 0), none, some (.iload 5, 2, 0, 0, 0, 0), none, some (.ifCond .le 6, 3, 0, 0, 0, 0), none, none, some (.iinc 1 1, 3, 0, 0, 0, 0), none, none, some (.iinc 4 1, 3, 0, 0, 0, 0), none, none, some (.goto (-23), 3, 0, 0, 0, 0), none, none, some (.iload_n 1, 1, 0, 0, 0, 0), some (.ireturn, 1, 0, 0, 0, 0)]
def xk_4 : List (Option xQ) := [some (.iconst 0, 1, 0, 0, 0, 0), some (.istore_n 1, 1, 0, 0, 0, 0), some (.aload_n 0, 1, 0, 0, 0, 0), some (.getfield 9, 3, 0, 0, 0, 273), none, none, some (.astore_n 2, 1, 0, 0, 0, 0), some (.aload_n 2, 1, 0, 0, 0, 0), some (.arraylength, 1, 0, 0, 0, 0), some (.istore_n 3, 1, 0, 0, 0, 0), some (.iconst 0, 1, 0, 0, 0, 0), some (.istore 4, 2, 0, 0, 0, 0), none, some (.iload 4, 2, 0, 0, 0, 0), none, some (.iload_n 3, 1, 0, 0, 0, 0), some (.if_icmp .ge 20, 3, 0, 0, 0, 0), none, none, some (.aload_n 2, 1, 0, 0, 0, 0), some (.iload 4, 2, 0, 0, 0, 0), none, some (.iaload, 1, 0, 0, 0, 0), some (.istore 5, 2, 0, 0, 0, 0), none, some (.iload_n 1, 1, 0, 0, 0, 0), some (.iload 5, 2, 0, 0, 0, 0), none, some (.iadd, 1, 0, 0, 0, 0), some (.istore_n 1, 1, 0, 0, 0, 0), some (.iinc 4 1, 3, 0, 0, 0, 0), none, none, some (.goto (-20), 3, 0, 0, 0, 0), none, none, some (.iload_n 1, 1, 0, 0, 0, 0), some (.ireturn, 1, 0, 0, 0, 0)]
def xk_5 : List (Option xQ) := [some (.aload_n 0, 1, 0, 0, 0, 0), some (.getfield 9, 3, 0, 0, 0, 273), none, none, some (.arraylength, 1, 0, 0, 0, 0), some (.iconst 1, 1, 0, 0, 0, 0), some (.isub, 1, 0, 0, 0, 0), some (.istore_n 1, 1, 0, 0, 0, 0), some (.iload_n 1, 1, 0, 0, 0, 0), some (.ifCond .lt 19, 3, 0, 0, 0, 0), none, none, some (.aload_n 0, 1, 0, 0, 0, 0), some (.iload_n 1, 1, 0, 0, 0, 0), some (.invokevirtual 52, 3, 0, 2, 0, 732), none, none, some (.ifCond .le 5, 3, 0, 0, 0, 0), none, none, some (.iload_n 1, 1, 0, 0, 0, 0), some (.ireturn, 1, 0, 0, 0, 0), some (.iinc 1 (-1), 3, 0, 0, 0, 0), none, none, some (.goto (-17), 3, 0, 0, 0, 0), none, none, some (.bipush (-4), 2, 0, 0, 0, 0), none, some (.ireturn, 1, 0, 0, 0, 0)]
def xk_6 : List (Option xQ) := [some (.iconst 0, 1, 0, 0, 0, 0), some (.istore_n 1, 1, 0, 0, 0, 0), some (.iload_n 1, 1, 0, 0, 0, 0), some (.aload_n 0, 1, 0, 0, 0, 0), some (.getfield 9, 3, 0, 0, 0, 273), none, none, some (.arraylength, 1, 0, 0, 0, 0), some (.if_icmp .ge 20, 3, 0, 0, 0, 0), none, none, some (.aload_n 0, 1, 0, 0, 0, 0), some (.getfield 9, 3, 0, 0, 0, 273), none, none, some (.iload_n 1, 1, 0, 0, 0, 0), some (.iaload, 1, 0, 0, 0, 0), some (.ifCond .le 5, 3, 0, 0, 0, 0), none, none, some (.iload_n 1, 1, 0, 0, 0, 0), some (.ireturn, 1, 0, 0, 0, 0), some (.iinc 1 1, 3, 0, 0, 0, 0), none, none, some (.goto (-23), 3, 0, 0, 0, 0), none, none, some (.bipush (-4), 2, 0, 0, 0, 0), none, some (.ireturn, 1, 0, 0, 0, 0)]
def xk_7 : List (Option xQ) := [some (.bipush (-4), 2, 0, 0, 0, 0), none, some (.istore_n 1, 1, 0, 0, 0, 0), some (.iconst 0, 1, 0, 0, 0, 0), some (.istore_n 2, 1, 0, 0, 0, 0), some (.iconst 0, 1, 0, 0, 0, 0), some (.istore_n 3, 1, 0, 0, 0, 0), some (.iload_n 3, 1, 0, 0, 0, 0), some (.aload_n 0, 1, 0, 0, 0, 0), some (.getfield 9, 3, 0, 0, 0, 273), none, none, some (.arraylength, 1, 0, 0, 0, 0), some (.if_icmp .ge 28, 3, 0, 0, 0, 0), none, none, some (.aload_n 0, 1, 0, 0, 0, 0), some (.getfield 9, 3, 0, 0, 0, 273), none, none, some (.iload_n 3, 1, 0, 0, 0, 0), some (.iaload, 1, 0, 0, 0, 0), some (.iload_n 2, 1, 0, 0, 0, 0), some (.if_icmp .le 12, 3, 0, 0, 0, 0), none, none, some (.aload_n 0, 1, 0, 0, 0, 0), some (.getfield 9, 3, 0, 0, 0, 273), none, none, some (.iload_n 3, 1, 0, 0, 0, 0), some (.iaload, 1, 0, 0, 0, 0), some (.istore_n 2, 1, 0, 0, 0, 0), some (.iload_n 3, 1, 0, 0, 0, 0), some (.istore_n 1, 1, 0, 0, 0, 0), some (.iinc 3 1, 3, 0, 0, 0, 0), none, none, some (.goto (-31), 3, 0, 0, 0, 0), none, none, some (.iload_n 1, 1, 0, 0, 0, 0), some (.ireturn, 1, 0, 0, 0, 0)]
def xk_8 : List (Option xQ) := [some (.iconst 0, 1, 0, 0, 0, 0), some (.istore_n 3, 1, 0, 0, 0, 0), some (.aload_n 1, 1, 0, 0, 0, 0), some (.iload_n 2, 1, 0, 0, 0, 0), some (.invokevirtual 56, 3, 0, 62, 0, 749), none, none, some (.istore 4, 2, 0, 0, 0, 0), none, some (.iconst 0, 1, 0, 0, 0, 0), some (.istore 5, 2, 0, 0, 0, 0), none, some (.iload 5, 2, 0, 0, 0, 0), none, some (.iload 4, 2, 0, 0, 0, 0), none, some (.if_icmp .ge 24, 3, 0, 0, 0, 0), none, none, some (.aload_n 0, 1, 0, 0, 0, 0), some (.aload_n 1, 1, 0, 0, 0, 0), some (.iload_n 2, 1, 0, 0, 0, 0), some (.iload 5, 2, 0, 0, 0, 0), none, some (.invokevirtual 59, 3, 0, 1, 0, 750), none, none, some (.iload_n 3, 1, 0, 0, 0, 0), some (.aload_n 0, 1, 0, 0, 0, 0), some (.invokevirtual 63, 3, 0, 4, 0, 751), none, none, some (.iadd, 1, 0, 0, 0, 0), some (.istore_n 3, 1, 0, 0, 0, 0), some (.iinc 5 1, 3, 0, 0, 0, 0), none, none, some (.goto (-25), 3, 0, 0, 0, 0), none, none, some (.iload_n 3, 1, 0, 0, 0, 0), some (.ireturn, 1, 0, 0, 0, 0)]
def xk_9 : List (Option xQ) := [some (.iconst 0, 1, 0, 0, 0, 0), some (.istore_n 3, 1, 0, 0, 0, 0), some (.aload_n 1, 1, 0, 0, 0, 0), some (.iload_n 2, 1, 0, 0, 0, 0), some (.invokevirtual 56, 3, 0, 62, 0, 749), none, none, some (.istore 4, 2, 0, 0, 0, 0), none, some (.iconst 0, 1, 0, 0, 0, 0), some (.istore 5, 2, 0, 0, 0, 0), none, some (.iload 5, 2, 0, 0, 0, 0), none, some (.iload 4, 2, 0, 0, 0, 0), none, some (.if_icmp .ge 27, 3, 0, 0, 0, 0), none, none, some (.aload_n 0, 1, 0, 0, 0, 0), some (.aload_n 1, 1, 0, 0, 0, 0), some (.iload_n 2, 1, 0, 0, 0, 0), some (.iload 5, 2, 0, 0, 0, 0), none, some (.invokevirtual 59, 3, 0, 1, 0, 750), none, none, some (.aload_n 0, 1, 0, 0, 0, 0), some (.invokevirtual 63, 3, 0, 4, 0, 751), none, none, some (.ifCond .ne 6, 3, 0, 0, 0, 0), none, none, some (.iinc 3 1, 3, 0, 0, 0, 0), none, none, some (.iinc 5 1, 3, 0, 0, 0, 0), none, none, some (.goto (-28), 3, 0, 0, 0, 0), none, none, some (.iload_n 3, 1, 0, 0, 0, 0), some (.ireturn, 1, 0, 0, 0, 0)]
def xk_10 : List (Option xQ) := [some (.bipush (-4), 2, 0, 0, 0, 0), none, some (.istore_n 2, 1, 0, 0, 0, 0), some (.iconst 0, 1, 0, 0, 0, 0), some (.istore_n 3, 1, 0, 0, 0, 0), some (.aload_n 1, 1, 0, 0, 0, 0), some (.aload_n 1, 1, 0, 0, 0, 0), some (.getfield 66, 3, 1, 7, 5, 163), none, none, some (.invokevirtual 56, 3, 0, 62, 0, 749), none, none, some (.istore 4, 2, 0, 0, 0, 0), none, some (.iconst 0, 1, 0, 0, 0, 0), some (.istore 5, 2, 0, 0, 0, 0), none, some (.iload 5, 2, 0, 0, 0, 0), none, some (.iload 4, 2, 0, 0, 0, 0), none, some (.if_icmp .ge 36, 3, 0, 0, 0, 0), none, none, some (.aload_n 0, 1, 0, 0, 0, 0), some (.aload_n 1, 1, 0, 0, 0, 0), some (.aload_n 1, 1, 0, 0, 0, 0), some (.getfield 66, 3, 1, 7, 5, 163), none, none, some (.iload 5, 2, 0, 0, 0, 0), none, some (.invokevirtual 59, 3, 0, 1, 0, 750), none, none, some (.aload_n 0, 1, 0, 0, 0, 0), some (.invokevirtual 63, 3, 0, 4, 0, 751), none, none, some (.iload_n 3, 1, 0, 0, 0, 0), some (.if_icmp .le 11, 3, 0, 0, 0, 0), none, none, some (.aload_n 0, 1, 0, 0, 0, 0), some (.invokevirtual 63, 3, 0, 4, 0, 751), none, none, some (.istore_n 3, 1, 0, 0, 0, 0), some (.iload 5, 2, 0, 0, 0, 0), none, some (.istore_n 2, 1, 0, 0, 0, 0), some (.iinc 5 1, 3, 0, 0, 0, 0), none, none, some (.goto (-37), 3, 0, 0, 0, 0), none, none, some (.iload_n 2, 1, 0, 0, 0, 0), some (.ireturn, 1, 0, 0, 0, 0)]
def xk_11 : List (Option xQ) := [some (.iconst 0, 1, 0, 0, 0, 0), some (.istore_n 2, 1, 0, 0, 0, 0), some (.iload_n 2, 1, 0, 0, 0, 0), some (.aload_n 0, 1, 0, 0, 0, 0), some (.getfield 15, 3, 0, 0, 1, 274), none, none, some (.arraylength, 1, 0, 0, 0, 0), some (.if_icmp .ge 16, 3, 0, 0, 0, 0), none, none, some (.aload_n 0, 1, 0, 0, 0, 0), some (.getfield 15, 3, 0, 0, 1, 274), none, none, some (.iload_n 2, 1, 0, 0, 0, 0), some (.iconst 0, 1, 0, 0, 0, 0), some (.iastore, 1, 0, 0, 0, 0), some (.iinc 2 1, 3, 0, 0, 0, 0), none, none, some (.goto (-19), 3, 0, 0, 0, 0), none, none, some (.aload_n 1, 1, 0, 0, 0, 0), some (.aload_n 1, 1, 0, 0, 0, 0), some (.getfield 66, 3, 1, 7, 5, 163), none, none, some (.invokevirtual 56, 3, 0, 62, 0, 749), none, none, some (.istore_n 2, 1, 0, 0, 0, 0), some (.iconst 0, 1, 0, 0, 0, 0), some (.istore_n 3, 1, 0, 0, 0, 0), some (.iload_n 3, 1, 0, 0, 0, 0), some (.iload_n 2, 1, 0, 0, 0, 0), some (.if_icmp .ge 56, 3, 0, 0, 0, 0), none, none, some (.aload_n 0, 1, 0, 0, 0, 0), some (.aload_n 1, 1, 0, 0, 0, 0), some (.aload_n 1, 1, 0, 0, 0, 0), some (.getfield 66, 3, 1, 7, 5, 163), none, none, some (.iload_n 3, 1, 0, 0, 0, 0), some (.invokevirtual 59, 3, 0, 1, 0, 750), none, none, some (.iconst 0, 1, 0, 0, 0, 0), some (.istore 4, 2, 0, 0, 0, 0), none, some (.iload 4, 2, 0, 0, 0, 0), none, some (.aload_n 0, 1, 0, 0, 0, 0), some (.getfield 15, 3, 0, 0, 1, 274), none, none, some (.arraylength, 1, 0, 0, 0, 0), some (.if_icmp .ge 27, 3, 0, 0, 0, 0), none, none, some (.aload_n 0, 1, 0, 0, 0, 0), some (.getfield 15, 3, 0, 0, 1, 274), none, none, some (.iload 4, 2, 0, 0, 0, 0), none, some (.dup2, 1, 0, 0, 0, 0), some (.iaload, 1, 0, 0, 0, 0), some (.aload_n 0, 1, 0, 0, 0, 0), some (.aload_n 1, 1, 0, 0, 0, 0), some (.iload 4, 2, 0, 0, 0, 0), none, some (.iload_n 3, 1, 0, 0, 0, 0), some (.invokevirtual 70, 3, 0, 12, 0, 760), none, none, some (.iadd, 1, 0, 0, 0, 0), some (.iastore, 1, 0, 0, 0, 0), some (.iinc 4 1, 3, 0, 0, 0, 0), none, none, some (.goto (-31), 3, 0, 0, 0, 0), none, none, some (.iinc 3 1, 3, 0, 0, 0, 0), none, none, some (.goto (-55), 3, 0, 0, 0, 0), none, none, some (.iconst 0, 1, 0, 0, 0, 0), some (.istore_n 3, 1, 0, 0, 0, 0), some (.bipush (-4), 2, 0, 0, 0, 0), none, some (.istore 4, 2, 0, 0, 0, 0), none, some (.iconst 0, 1, 0, 0, 0, 0), some (.istore 5, 2, 0, 0, 0, 0), none, some (.iload 5, 2, 0, 0, 0, 0), none, some (.aload_n 0, 1, 0, 0, 0, 0), some (.getfield 15, 3, 0, 0, 1, 274), none, none, some (.arraylength, 1, 0, 0, 0, 0), some (.if_icmp .ge 32, 3, 0, 0, 0, 0), none, none, some (.aload_n 0, 1, 0, 0, 0, 0), some (.getfield 15, 3, 0, 0, 1, 274), none, none, some (.iload 5, 2, 0, 0, 0, 0), none, some (.iaload, 1, 0, 0, 0, 0), some (.iload_n 3, 1, 0, 0, 0, 0), some (.if_icmp .le 15, 3, 0, 0, 0, 0), none, none, some (.aload_n 0, 1, 0, 0, 0, 0), some (.getfield 15, 3, 0, 0, 1, 274), none, none, some (.iload 5, 2, 0, 0, 0, 0), none, some (.iaload, 1, 0, 0, 0, 0), some (.istore_n 3, 1, 0, 0, 0, 0), some (.iload 5, 2, 0, 0, 0, 0), none, some (.istore 4, 2, 0, 0, 0, 0), none, some (.iinc 5 1, 3, 0, 0, 0, 0), none, none, some (.goto (-36), 3, 0, 0, 0, 0), none, none, some (.iload 4, 2, 0, 0, 0, 0), none, some (.ireturn, 1, 0, 0, 0, 0)]
def xk_12 : List (Option xQ) := [some (.aload_n 1, 1, 0, 0, 0, 0), some (.iload_n 2, 1, 0, 0, 0, 0), some (.invokevirtual 30, 3, 0, 66, 0, 705), none, none, some (.astore 4, 2, 0, 0, 0, 0), none, some (.aload 4, 2, 0, 0, 0, 0), none, some (.ifnonnull 5, 3, 0, 0, 0, 0), none, none, some (.iconst 0, 1, 0, 0, 0, 0), some (.ireturn, 1, 0, 0, 0, 0), some (.iconst 0, 1, 0, 0, 0, 0), some (.istore 5, 2, 0, 0, 0, 0), none, some (.aload_n 1, 1, 0, 0, 0, 0), some (.invokevirtual 24, 3, 0, 65, 0, 704), none, none, some (.istore 6, 2, 0, 0, 0, 0), none, some (.iload_n 3, 1, 0, 0, 0, 0), some (.aload 4, 2, 0, 0, 0, 0), none, some (.getfield 34, 3, 1, 3, 0, 138), none, none, some (.invokevirtual 40, 3, 0, 29, 0, 709), none, none, some (.invokestatic 45, 3, 1, 134, 0, 710), none, none, some (.istore 7, 2, 0, 0, 0, 0), none, some (.iconst 0, 1, 0, 0, 0, 0), some (.istore 8, 2, 0, 0, 0, 0), none, some (.iload 8, 2, 0, 0, 0, 0), none, some (.aload_n 0, 1, 0, 0, 0, 0), some (.getfield 9, 3, 0, 0, 0, 273), none, none, some (.arraylength, 1, 0, 0, 0, 0), some (.if_icmp .ge 48, 3, 0, 0, 0, 0), none, none, some (.aload 4, 2, 0, 0, 0, 0), none, some (.getfield 34, 3, 1, 3, 0, 138), none, none, some (.iload 7, 2, 0, 0, 0, 0), none, some (.iload 8, 2, 0, 0, 0, 0), none, some (.iload 6, 2, 0, 0, 0, 0), none, some (.iadd, 1, 0, 0, 0, 0), some (.invokevirtual 49, 3, 0, 30, 0, 711), none, none, some (.istore 9, 2, 0, 0, 0, 0), none, some (.iload 9, 2, 0, 0, 0, 0), none, some (.ifCond .le 20, 3, 0, 0, 0, 0), none, none, some (.iconst 2, 1, 0, 0, 0, 0), some (.iload 9, 2, 0, 0, 0, 0), none, some (.imul, 1, 0, 0, 0, 0), some (.aload_n 0, 1, 0, 0, 0, 0), some (.getfield 9, 3, 0, 0, 0, 273), none, none, some (.iload 8, 2, 0, 0, 0, 0), none, some (.iaload, 1, 0, 0, 0, 0), some (.if_icmp .ge 6, 3, 0, 0, 0, 0), none, none, some (.iinc 5 1, 3, 0, 0, 0, 0), none, none, some (.iinc 8 1, 3, 0, 0, 0, 0), none, none, some (.goto (-52), 3, 0, 0, 0, 0), none, none, some (.iload 5, 2, 0, 0, 0, 0), none, some (.ireturn, 1, 0, 0, 0, 0)]
def xk_13 : List (Option xQ) := [some (.aload_n 2, 1, 0, 0, 0, 0), some (.aload_n 0, 1, 0, 0, 0, 0), some (.getfield 21, 3, 0, 0, 3, 276), none, none, some (.invokevirtual 74, 3, 0, 52, 0, 772), none, none, some (.istore_n 3, 1, 0, 0, 0, 0), some (.aload_n 1, 1, 0, 0, 0, 0), some (.aload_n 1, 1, 0, 0, 0, 0), some (.getfield 66, 3, 1, 7, 5, 163), none, none, some (.invokevirtual 56, 3, 0, 62, 0, 749), none, none, some (.aload_n 0, 1, 0, 0, 0, 0), some (.getfield 18, 3, 0, 0, 2, 275), none, none, some (.arraylength, 1, 0, 0, 0, 0), some (.invokestatic 80, 3, 8, 0, 0, 777), none, none, some (.istore 4, 2, 0, 0, 0, 0), none, some (.iconst 0, 1, 0, 0, 0, 0), some (.istore 5, 2, 0, 0, 0, 0), none, some (.iload 5, 2, 0, 0, 0, 0), none, some (.iload 4, 2, 0, 0, 0, 0), none, some (.if_icmp .ge 41, 3, 0, 0, 0, 0), none, none, some (.iload 5, 2, 0, 0, 0, 0), none, some (.aload_n 0, 1, 0, 0, 0, 0), some (.getfield 18, 3, 0, 0, 2, 275), none, none, some (.arraylength, 1, 0, 0, 0, 0), some (.if_icmp .ge 31, 3, 0, 0, 0, 0), none, none, some (.aload_n 0, 1, 0, 0, 0, 0), some (.aload_n 1, 1, 0, 0, 0, 0), some (.aload_n 1, 1, 0, 0, 0, 0), some (.getfield 66, 3, 1, 7, 5, 163), none, none, some (.iload 5, 2, 0, 0, 0, 0), none, some (.invokevirtual 59, 3, 0, 1, 0, 750), none, none, some (.aload_n 0, 1, 0, 0, 0, 0), some (.getfield 18, 3, 0, 0, 2, 275), none, none, some (.iload 5, 2, 0, 0, 0, 0), none, some (.aload_n 0, 1, 0, 0, 0, 0), some (.invokevirtual 85, 3, 0, 5, 0, 778), none, none, some (.iastore, 1, 0, 0, 0, 0), some (.iinc 5 1, 3, 0, 0, 0, 0), none, none, some (.goto (-42), 3, 0, 0, 0, 0), none, none, some (.iconst 0, 1, 0, 0, 0, 0), some (.istore 5, 2, 0, 0, 0, 0), none, some (.iconst 0, 1, 0, 0, 0, 0), some (.istore 6, 2, 0, 0, 0, 0), none, some (.iload 6, 2, 0, 0, 0, 0), none, some (.iload 4, 2, 0, 0, 0, 0), none, some (.if_icmp .ge 24, 3, 0, 0, 0, 0), none, none, some (.aload_n 0, 1, 0, 0, 0, 0), some (.iload 6, 2, 0, 0, 0, 0), none, some (.iload_n 3, 1, 0, 0, 0, 0), some (.iload 4, 2, 0, 0, 0, 0), none, some (.invokevirtual 88, 3, 0, 14, 0, 779), none, none, some (.ifCond .eq 6, 3, 0, 0, 0, 0), none, none, some (.iinc 5 1, 3, 0, 0, 0, 0), none, none, some (.iinc 6 1, 3, 0, 0, 0, 0), none, none, some (.goto (-25), 3, 0, 0, 0, 0), none, none, some (.iload 5, 2, 0, 0, 0, 0), none, some (.ireturn, 1, 0, 0, 0, 0)]
def xk_14 : List (Option xQ) := [some (.iconst 0, 1, 0, 0, 0, 0), some (.istore 4, 2, 0, 0, 0, 0), none, some (.iload 4, 2, 0, 0, 0, 0), none, some (.iload_n 2, 1, 0, 0, 0, 0), some (.if_icmp .ge 63, 3, 0, 0, 0, 0), none, none, some (.iload 4, 2, 0, 0, 0, 0), none, some (.aload_n 0, 1, 0, 0, 0, 0), some (.getfield 21, 3, 0, 0, 3, 276), none, none, some (.arraylength, 1, 0, 0, 0, 0), some (.if_icmp .ge 53, 3, 0, 0, 0, 0), none, none, some (.iload_n 1, 1, 0, 0, 0, 0), some (.iload 4, 2, 0, 0, 0, 0), none, some (.iadd, 1, 0, 0, 0, 0), some (.iload_n 3, 1, 0, 0, 0, 0), some (.invokestatic 45, 3, 1, 134, 0, 710), none, none, some (.istore 5, 2, 0, 0, 0, 0), none, some (.iload 5, 2, 0, 0, 0, 0), none, some (.ifCond .lt 30, 3, 0, 0, 0, 0), none, none, some (.iload 5, 2, 0, 0, 0, 0), none, some (.aload_n 0, 1, 0, 0, 0, 0), some (.getfield 18, 3, 0, 0, 2, 275), none, none, some (.arraylength, 1, 0, 0, 0, 0), some (.if_icmp .ge 20, 3, 0, 0, 0, 0), none, none, some (.aload_n 0, 1, 0, 0, 0, 0), some (.getfield 18, 3, 0, 0, 2, 275), none, none, some (.iload 5, 2, 0, 0, 0, 0), none, some (.iaload, 1, 0, 0, 0, 0), some (.aload_n 0, 1, 0, 0, 0, 0), some (.getfield 21, 3, 0, 0, 3, 276), none, none, some (.iload 4, 2, 0, 0, 0, 0), none, some (.iaload, 1, 0, 0, 0, 0), some (.if_icmp .eq 5, 3, 0, 0, 0, 0), none, none, some (.iconst 0, 1, 0, 0, 0, 0), some (.ireturn, 1, 0, 0, 0, 0), some (.iinc 4 1, 3, 0, 0, 0, 0), none, none, some (.goto (-63), 3, 0, 0, 0, 0), none, none, some (.iconst 1, 1, 0, 0, 0, 0), some (.ireturn, 1, 0, 0, 0, 0)]
def xk_15 : List (Option xQ) := [some (.aload_n 0, 1, 0, 0, 0, 0), some (.invokespecial 3, 3, 6, 0, 0, 253), none, none, some (.return_, 1, 0, 0, 0, 0)]
def xk_16 : List (Option xQ) := [some (.aload_n 0, 1, 0, 0, 0, 0), some (.getfield 9, 3, 0, 1, 0, 254), none, none, some (.ireturn, 1, 0, 0, 0, 0)]
def xk_17 : List (Option xQ) := [some (.aload_n 0, 1, 0, 0, 0, 0), some (.iconst 0, 1, 0, 0, 0, 0), some (.putfield 9, 3, 0, 1, 0, 254), none, none, some (.return_, 1, 0, 0, 0, 0)]
def xk_18 : List (Option xQ) := [some (.aload_n 0, 1, 0, 0, 0, 0), some (.iconst 1, 1, 0, 0, 0, 0), some (.putfield 9, 3, 0, 1, 0, 254), none, none, some (.aload_n 0, 1, 0, 0, 0, 0), some (.iload_n 1, 1, 0, 0, 0, 0), some (.putfield 15, 3, 0, 1, 1, 255), none, none, some (.aload_n 0, 1, 0, 0, 0, 0), some (.iload_n 2, 1, 0, 0, 0, 0), some (.putfield 19, 3, 0, 1, 2, 256), none, none, some (.aload_n 0, 1, 0, 0, 0, 0), some (.iload_n 3, 1, 0, 0, 0, 0), some (.putfield 22, 3, 0, 1, 3, 257), none, none, some (.return_, 1, 0, 0, 0, 0)]
def xk_19 : List (Option xQ) := [some (.iload_n 1, 1, 0, 0, 0, 0), some (.ifCond .lt 8, 3, 0, 0, 0, 0), none, none, some (.iload_n 1, 1, 0, 0, 0, 0), some (.iconst 2, 1, 0, 0, 0, 0), some (.if_icmp .le 5, 3, 0, 0, 0, 0), none, none, some (.iconst (-1), 1, 0, 0, 0, 0), some (.ireturn, 1, 0, 0, 0, 0), some (.aload_n 0, 1, 0, 0, 0, 0), some (.getfield 9, 3, 0, 1, 0, 254), none, none, some (.ifCond .ne 6, 3, 0, 0, 0, 0), none, none, some (.bipush (-4), 2, 0, 0, 0, 0), none, some (.ireturn, 1, 0, 0, 0, 0), some (.iload_n 1, 1, 0, 0, 0, 0), some (.ifCond .ne 10, 3, 0, 0, 0, 0), none, none, some (.aload_n 0, 1, 0, 0, 0, 0), some (.getfield 15, 3, 0, 1, 1, 255), none, none, some (.goto 19, 3, 0, 0, 0, 0), none, none, some (.iload_n 1, 1, 0, 0, 0, 0), some (.iconst 1, 1, 0, 0, 0, 0), some (.if_icmp .ne 10, 3, 0, 0, 0, 0), none, none, some (.aload_n 0, 1, 0, 0, 0, 0), some (.getfield 19, 3, 0, 1, 2, 256), none, none, some (.goto 7, 3, 0, 0, 0, 0), none, none, some (.aload_n 0, 1, 0, 0, 0, 0), some (.getfield 22, 3, 0, 1, 3, 257), none, none, some (.ireturn, 1, 0, 0, 0, 0)]
def xk_20 : List (Option xQ) := [some (.aload_n 0, 1, 0, 0, 0, 0), some (.invokespecial 3, 3, 6, 0, 0, 203), none, none, some (.aload_n 0, 1, 0, 0, 0, 0), some (.iconst 5, 1, 0, 0, 0, 0), some (.anewarray 9, 3, 0, 103, 0, 204), none, none, some (.putfield 11, 3, 0, 2, 0, 207), none, none, some (.iconst 0, 1, 0, 0, 0, 0), some (.istore_n 1, 1, 0, 0, 0, 0), some (.iload_n 1, 1, 0, 0, 0, 0), some (.aload_n 0, 1, 0, 0, 0, 0), some (.getfield 11, 3, 0, 2, 0, 207), none, none, some (.arraylength, 1, 0, 0, 0, 0), some (.if_icmp .ge 22, 3, 0, 0, 0, 0), none, none, some (.aload_n 0, 1, 0, 0, 0, 0), some (.getfield 11, 3, 0, 2, 0, 207), none, none, some (.iload_n 1, 1, 0, 0, 0, 0), some (.new 9, 3, 0, 7, 0, 204), none, none, some (.dup, 1, 0, 0, 0, 0), some (.invokespecial 17, 3, 0, 54, 0, 206), none, none, some (.aastore, 1, 0, 0, 0, 0), some (.iinc 1 1, 3, 0, 0, 0, 0), none, none, some (.goto (-25), 3, 0, 0, 0, 0), none, none, some (.return_, 1, 0, 0, 0, 0)]
def xk_21 : List (Option xQ) := [some (.aload_n 0, 1, 0, 0, 0, 0), some (.getfield 18, 3, 0, 2, 2, 209), none, none, some (.ireturn, 1, 0, 0, 0, 0)]
def xk_22 : List (Option xQ) := [some (.aload_n 0, 1, 0, 0, 0, 0), some (.getfield 22, 3, 0, 2, 1, 208), none, none, some (.iload_n 1, 1, 0, 0, 0, 0), some (.iadd, 1, 0, 0, 0, 0), some (.aload_n 0, 1, 0, 0, 0, 0), some (.getfield 11, 3, 0, 2, 0, 207), none, none, some (.arraylength, 1, 0, 0, 0, 0), some (.invokestatic 25, 3, 1, 134, 0, 326), none, none, some (.istore_n 2, 1, 0, 0, 0, 0), some (.iload_n 2, 1, 0, 0, 0, 0), some (.ifCond .lt 21, 3, 0, 0, 0, 0), none, none, some (.iload_n 2, 1, 0, 0, 0, 0), some (.aload_n 0, 1, 0, 0, 0, 0), some (.getfield 11, 3, 0, 2, 0, 207), none, none, some (.arraylength, 1, 0, 0, 0, 0), some (.if_icmp .ge 12, 3, 0, 0, 0, 0), none, none, some (.aload_n 0, 1, 0, 0, 0, 0), some (.getfield 11, 3, 0, 2, 0, 207), none, none, some (.iload_n 2, 1, 0, 0, 0, 0), some (.aaload, 1, 0, 0, 0, 0), some (.goto 4, 3, 0, 0, 0, 0), none, none, some (.aconst_null, 1, 0, 0, 0, 0), some (.areturn, 1, 0, 0, 0, 0)]
def xk_23 : List (Option xQ) := [some (.aload_n 0, 1, 0, 0, 0, 0), some (.aload_n 0, 1, 0, 0, 0, 0), some (.getfield 18, 3, 0, 2, 2, 209), none, none, some (.invokevirtual 29, 3, 0, 22, 0, 322), none, none, some (.astore_n 2, 1, 0, 0, 0, 0), some (.aload_n 2, 1, 0, 0, 0, 0), some (.ifnull 8, 3, 0, 0, 0, 0), none, none, some (.aload_n 2, 1, 0, 0, 0, 0), some (.aload_n 1, 1, 0, 0, 0, 0), some (.invokevirtual 33, 3, 0, 55, 0, 329), none, none, some (.return_, 1, 0, 0, 0, 0)]
def xk_24 : List (Option xQ) := [some (.aload_n 0, 1, 0, 0, 0, 0), some (.getfield 18, 3, 0, 2, 2, 209), none, none, some (.iconst 4, 1, 0, 0, 0, 0), some (.if_icmp .ge 16, 3, 0, 0, 0, 0), none, none, some (.aload_n 0, 1, 0, 0, 0, 0), some (.dup, 1, 0, 0, 0, 0), some (.getfield 18, 3, 0, 2, 2, 209), none, none, some (.iconst 1, 1, 0, 0, 0, 0), some (.iadd, 1, 0, 0, 0, 0), some (.putfield 18, 3, 0, 2, 2, 209), none, none, some (.goto 21, 3, 0, 0, 0, 0), none, none, some (.aload_n 0, 1, 0, 0, 0, 0), some (.aload_n 0, 1, 0, 0, 0, 0), some (.getfield 22, 3, 0, 2, 1, 208), none, none, some (.iconst 1, 1, 0, 0, 0, 0), some (.iadd, 1, 0, 0, 0, 0), some (.aload_n 0, 1, 0, 0, 0, 0), some (.getfield 11, 3, 0, 2, 0, 207), none, none, some (.arraylength, 1, 0, 0, 0, 0), some (.invokestatic 25, 3, 1, 134, 0, 326), none, none, some (.putfield 22, 3, 0, 2, 1, 208), none, none, some (.return_, 1, 0, 0, 0, 0)]
def xk_25 : List (Option xQ) := [some (.aload_n 0, 1, 0, 0, 0, 0), some (.getfield 18, 3, 0, 2, 2, 209), none, none, some (.ifCond .ne 5, 3, 0, 0, 0, 0), none, none, some (.aconst_null, 1, 0, 0, 0, 0), some (.areturn, 1, 0, 0, 0, 0), some (.aload_n 0, 1, 0, 0, 0, 0), some (.dup, 1, 0, 0, 0, 0), some (.getfield 18, 3, 0, 2, 2, 209), none, none, some (.iconst 1, 1, 0, 0, 0, 0), some (.isub, 1, 0, 0, 0, 0), some (.putfield 18, 3, 0, 2, 2, 209), none, none, some (.aload_n 0, 1, 0, 0, 0, 0), some (.aload_n 0, 1, 0, 0, 0, 0), some (.getfield 18, 3, 0, 2, 2, 209), none, none, some (.invokevirtual 29, 3, 0, 22, 0, 322), none, none, some (.areturn, 1, 0, 0, 0, 0)]
def xk_26 : List (Option xQ) := [some (.aload_n 0, 1, 0, 0, 0, 0), some (.invokespecial 1, 3, 6, 0, 0, 134), none, none, some (.aload_n 0, 1, 0, 0, 0, 0), some (.new 7, 3, 0, 4, 0, 135), none, none, some (.dup, 1, 0, 0, 0, 0), some (.invokespecial 9, 3, 1, 28, 0, 136), none, none, some (.putfield 10, 3, 0, 3, 0, 137), none, none, some (.return_, 1, 0, 0, 0, 0)]
def xk_27 : List (Option xQ) := [some (.aload_n 0, 1, 0, 0, 0, 0), some (.getfield 10, 3, 0, 3, 0, 137), none, none, some (.aload_n 1, 1, 0, 0, 0, 0), some (.getfield 10, 3, 0, 3, 0, 137), none, none, some (.aload_n 1, 1, 0, 0, 0, 0), some (.getfield 10, 3, 0, 3, 0, 137), none, none, some (.invokevirtual 16, 3, 0, 29, 0, 367), none, none, some (.invokevirtual 20, 3, 0, 33, 0, 368), none, none, some (.aload_n 0, 1, 0, 0, 0, 0), some (.aload_n 1, 1, 0, 0, 0, 0), some (.getfield 24, 3, 0, 3, 1, 141), none, none, some (.putfield 24, 3, 0, 3, 1, 141), none, none, some (.aload_n 0, 1, 0, 0, 0, 0), some (.aload_n 1, 1, 0, 0, 0, 0), some (.getfield 28, 3, 0, 3, 2, 144), none, none, some (.putfield 28, 3, 0, 3, 2, 144), none, none, some (.return_, 1, 0, 0, 0, 0)]
def xk_28 : List (Option xQ) := [some (.aload_n 0, 1, 0, 0, 0, 0), some (.invokespecial 3, 3, 6, 0, 0, 106), none, none, some (.aload_n 0, 1, 0, 0, 0, 0), some (.sipush 1728, 3, 0, 0, 0, 0), none, none, some (.newarray .int, 2, 0, 100, 0, 114), none, some (.putfield 9, 3, 0, 4, 0, 107), none, none, some (.return_, 1, 0, 0, 0, 0)]
def xk_29 : List (Option xQ) := [some (.aload_n 0, 1, 0, 0, 0, 0), some (.getfield 15, 3, 0, 4, 1, 108), none, none, some (.ireturn, 1, 0, 0, 0, 0)]
def xk_30 : List (Option xQ) := [some (.iload_n 1, 1, 0, 0, 0, 0), some (.bipush 36, 2, 0, 0, 0, 0), none, some (.imul, 1, 0, 0, 0, 0), some (.iload_n 2, 1, 0, 0, 0, 0), some (.iadd, 1, 0, 0, 0, 0), some (.istore_n 3, 1, 0, 0, 0, 0), some (.iload_n 2, 1, 0, 0, 0, 0), some (.invokestatic 19, 3, 1, 132, 0, 437), none, none, some (.ifCond .eq 25, 3, 0, 0, 0, 0), none, none, some (.iload_n 3, 1, 0, 0, 0, 0), some (.ifCond .lt 21, 3, 0, 0, 0, 0), none, none, some (.iload_n 3, 1, 0, 0, 0, 0), some (.aload_n 0, 1, 0, 0, 0, 0), some (.getfield 9, 3, 0, 4, 0, 107), none, none, some (.arraylength, 1, 0, 0, 0, 0), some (.if_icmp .ge 12, 3, 0, 0, 0, 0), none, none, some (.aload_n 0, 1, 0, 0, 0, 0), some (.getfield 9, 3, 0, 4, 0, 107), none, none, some (.iload_n 3, 1, 0, 0, 0, 0), some (.iaload, 1, 0, 0, 0, 0), some (.goto 4, 3, 0, 0, 0, 0), none, none, some (.iconst 0, 1, 0, 0, 0, 0), some (.ireturn, 1, 0, 0, 0, 0)]
def xk_31 : List (Option xQ) := [some (.iload_n 1, 1, 0, 0, 0, 0), some (.bipush 36, 2, 0, 0, 0, 0), none, some (.imul, 1, 0, 0, 0, 0), some (.iload_n 2, 1, 0, 0, 0, 0), some (.iadd, 1, 0, 0, 0, 0), some (.istore 4, 2, 0, 0, 0, 0), none, some (.iload_n 2, 1, 0, 0, 0, 0), some (.invokestatic 19, 3, 1, 132, 0, 437), none, none, some (.ifCond .eq 18, 3, 0, 0, 0, 0), none, none, some (.iload 4, 2, 0, 0, 0, 0), none, some (.ifCond .lt 13, 3, 0, 0, 0, 0), none, none, some (.iload 4, 2, 0, 0, 0, 0), none, some (.aload_n 0, 1, 0, 0, 0, 0), some (.getfield 9, 3, 0, 4, 0, 107), none, none, some (.arraylength, 1, 0, 0, 0, 0), some (.if_icmp .lt 5, 3, 0, 0, 0, 0), none, none, some (.iconst 0, 1, 0, 0, 0, 0), some (.ireturn, 1, 0, 0, 0, 0), some (.aload_n 0, 1, 0, 0, 0, 0), some (.getfield 9, 3, 0, 4, 0, 107), none, none, some (.iload 4, 2, 0, 0, 0, 0), none, some (.aload_n 0, 1, 0, 0, 0, 0), some (.getfield 9, 3, 0, 4, 0, 107), none, none, some (.iload 4, 2, 0, 0, 0, 0), none, some (.iaload, 1, 0, 0, 0, 0), some (.iload_n 3, 1, 0, 0, 0, 0), some (.iadd, 1, 0, 0, 0, 0), some (.bipush 99, 2, 0, 0, 0, 0), none, some (.invokestatic 23, 3, 8, 0, 0, 444), none, none, some (.iastore, 1, 0, 0, 0, 0), some (.aload_n 0, 1, 0, 0, 0, 0), some (.getfield 9, 3, 0, 4, 0, 107), none, none, some (.iload 4, 2, 0, 0, 0, 0), none, some (.iaload, 1, 0, 0, 0, 0), some (.ireturn, 1, 0, 0, 0, 0)]
def xk_32 : List (Option xQ) := [some (.aload_n 0, 1, 0, 0, 0, 0), some (.iload_n 1, 1, 0, 0, 0, 0), some (.putfield 15, 3, 0, 4, 1, 108), none, none, some (.iconst 0, 1, 0, 0, 0, 0), some (.istore_n 2, 1, 0, 0, 0, 0), some (.iload_n 2, 1, 0, 0, 0, 0), some (.aload_n 0, 1, 0, 0, 0, 0), some (.getfield 15, 3, 0, 4, 1, 108), none, none, some (.bipush 36, 2, 0, 0, 0, 0), none, some (.imul, 1, 0, 0, 0, 0), some (.if_icmp .ge 25, 3, 0, 0, 0, 0), none, none, some (.iload_n 2, 1, 0, 0, 0, 0), some (.aload_n 0, 1, 0, 0, 0, 0), some (.getfield 9, 3, 0, 4, 0, 107), none, none, some (.arraylength, 1, 0, 0, 0, 0), some (.if_icmp .ge 16, 3, 0, 0, 0, 0), none, none, some (.aload_n 0, 1, 0, 0, 0, 0), some (.getfield 9, 3, 0, 4, 0, 107), none, none, some (.iload_n 2, 1, 0, 0, 0, 0), some (.iconst 0, 1, 0, 0, 0, 0), some (.iastore, 1, 0, 0, 0, 0), some (.iinc 2 1, 3, 0, 0, 0, 0), none, none, some (.goto (-30), 3, 0, 0, 0, 0), none, none, some (.return_, 1, 0, 0, 0, 0)]
def xk_33 : List (Option xQ) := [some (.iload_n 2, 1, 0, 0, 0, 0), some (.bipush 36, 2, 0, 0, 0, 0), none, some (.imul, 1, 0, 0, 0, 0), some (.istore_n 3, 1, 0, 0, 0, 0), some (.iload_n 3, 1, 0, 0, 0, 0), some (.ifCond .lt 40, 3, 0, 0, 0, 0), none, none, some (.iload_n 3, 1, 0, 0, 0, 0), some (.aload_n 1, 1, 0, 0, 0, 0), some (.getfield 9, 3, 0, 4, 0, 107), none, none, some (.arraylength, 1, 0, 0, 0, 0), some (.if_icmp .gt 31, 3, 0, 0, 0, 0), none, none, some (.iload_n 3, 1, 0, 0, 0, 0), some (.aload_n 0, 1, 0, 0, 0, 0), some (.getfield 9, 3, 0, 4, 0, 107), none, none, some (.arraylength, 1, 0, 0, 0, 0), some (.if_icmp .gt 22, 3, 0, 0, 0, 0), none, none, some (.aload_n 1, 1, 0, 0, 0, 0), some (.getfield 9, 3, 0, 4, 0, 107), none, none, some (.iconst 0, 1, 0, 0, 0, 0), some (.aload_n 0, 1, 0, 0, 0, 0), some (.getfield 9, 3, 0, 4, 0, 107), none, none, some (.iconst 0, 1, 0, 0, 0, 0), some (.iload_n 3, 1, 0, 0, 0, 0), some (.invokestatic 29, 3, 10, 0, 0, 353), none, none, some (.aload_n 0, 1, 0, 0, 0, 0), some (.iload_n 2, 1, 0, 0, 0, 0), some (.putfield 15, 3, 0, 4, 1, 108), none, none, some (.return_, 1, 0, 0, 0, 0)]
def xk_34 : List (Option xQ) := [some (.iconst 0, 1, 0, 0, 0, 0), some (.istore_n 2, 1, 0, 0, 0, 0), some (.iload_n 2, 1, 0, 0, 0, 0), some (.iload_n 1, 1, 0, 0, 0, 0), some (.if_icmp .ge 38, 3, 0, 0, 0, 0), none, none, some (.iconst 0, 1, 0, 0, 0, 0), some (.istore_n 3, 1, 0, 0, 0, 0), some (.iload_n 3, 1, 0, 0, 0, 0), some (.bipush 36, 2, 0, 0, 0, 0), none, some (.if_icmp .ge 24, 3, 0, 0, 0, 0), none, none, some (.aload_n 0, 1, 0, 0, 0, 0), some (.iload_n 2, 1, 0, 0, 0, 0), some (.iload_n 3, 1, 0, 0, 0, 0), some (.aload_n 0, 1, 0, 0, 0, 0), some (.iload_n 2, 1, 0, 0, 0, 0), some (.iload_n 1, 1, 0, 0, 0, 0), some (.iadd, 1, 0, 0, 0, 0), some (.iload_n 3, 1, 0, 0, 0, 0), some (.invokevirtual 35, 3, 0, 30, 0, 433), none, none, some (.invokevirtual 38, 3, 0, 31, 0, 440), none, none, some (.pop, 1, 0, 0, 0, 0), some (.iinc 3 1, 3, 0, 0, 0, 0), none, none, some (.goto (-24), 3, 0, 0, 0, 0), none, none, some (.iinc 2 1, 3, 0, 0, 0, 0), none, none, some (.goto (-37), 3, 0, 0, 0, 0), none, none, some (.return_, 1, 0, 0, 0, 0)]
def xk_35 : List (Option xQ) := [some (.iconst 0, 1, 0, 0, 0, 0), some (.istore_n 2, 1, 0, 0, 0, 0), some (.iload_n 2, 1, 0, 0, 0, 0), some (.aload_n 0, 1, 0, 0, 0, 0), some (.getfield 15, 3, 0, 4, 1, 108), none, none, some (.bipush 36, 2, 0, 0, 0, 0), none, some (.imul, 1, 0, 0, 0, 0), some (.if_icmp .ge 34, 3, 0, 0, 0, 0), none, none, some (.iload_n 2, 1, 0, 0, 0, 0), some (.aload_n 0, 1, 0, 0, 0, 0), some (.getfield 9, 3, 0, 4, 0, 107), none, none, some (.arraylength, 1, 0, 0, 0, 0), some (.if_icmp .ge 25, 3, 0, 0, 0, 0), none, none, some (.aload_n 0, 1, 0, 0, 0, 0), some (.getfield 9, 3, 0, 4, 0, 107), none, none, some (.iload_n 2, 1, 0, 0, 0, 0), some (.aload_n 0, 1, 0, 0, 0, 0), some (.getfield 9, 3, 0, 4, 0, 107), none, none, some (.iload_n 2, 1, 0, 0, 0, 0), some (.iaload, 1, 0, 0, 0, 0), some (.iload_n 1, 1, 0, 0, 0, 0), some (.invokestatic 42, 3, 1, 136, 0, 510), none, none, some (.iastore, 1, 0, 0, 0, 0), some (.iinc 2 1, 3, 0, 0, 0, 0), none, none, some (.goto (-39), 3, 0, 0, 0, 0), none, none, some (.return_, 1, 0, 0, 0, 0)]
def xk_36 : List (Option xQ) := [some (.iconst 0, 1, 0, 0, 0, 0), some (.istore_n 1, 1, 0, 0, 0, 0), some (.iconst 0, 1, 0, 0, 0, 0), some (.istore_n 2, 1, 0, 0, 0, 0), some (.iload_n 2, 1, 0, 0, 0, 0), some (.aload_n 0, 1, 0, 0, 0, 0), some (.getfield 15, 3, 0, 4, 1, 108), none, none, some (.bipush 36, 2, 0, 0, 0, 0), none, some (.imul, 1, 0, 0, 0, 0), some (.if_icmp .ge 30, 3, 0, 0, 0, 0), none, none, some (.iload_n 2, 1, 0, 0, 0, 0), some (.aload_n 0, 1, 0, 0, 0, 0), some (.getfield 9, 3, 0, 4, 0, 107), none, none, some (.arraylength, 1, 0, 0, 0, 0), some (.if_icmp .ge 21, 3, 0, 0, 0, 0), none, none, some (.aload_n 0, 1, 0, 0, 0, 0), some (.getfield 9, 3, 0, 4, 0, 107), none, none, some (.iload_n 2, 1, 0, 0, 0, 0), some (.iaload, 1, 0, 0, 0, 0), some (.ifCond .le 6, 3, 0, 0, 0, 0), none, none, some (.iinc 1 1, 3, 0, 0, 0, 0), none, none, some (.iinc 2 1, 3, 0, 0, 0, 0), none, none, some (.goto (-35), 3, 0, 0, 0, 0), none, none, some (.iload_n 1, 1, 0, 0, 0, 0), some (.ireturn, 1, 0, 0, 0, 0)]
def xk_37 : List (Option xQ) := [some (.iconst 0, 1, 0, 0, 0, 0), some (.istore_n 1, 1, 0, 0, 0, 0), some (.iconst 0, 1, 0, 0, 0, 0), some (.istore_n 2, 1, 0, 0, 0, 0), some (.iload_n 2, 1, 0, 0, 0, 0), some (.aload_n 0, 1, 0, 0, 0, 0), some (.getfield 15, 3, 0, 4, 1, 108), none, none, some (.bipush 36, 2, 0, 0, 0, 0), none, some (.imul, 1, 0, 0, 0, 0), some (.if_icmp .ge 27, 3, 0, 0, 0, 0), none, none, some (.iload_n 2, 1, 0, 0, 0, 0), some (.aload_n 0, 1, 0, 0, 0, 0), some (.getfield 9, 3, 0, 4, 0, 107), none, none, some (.arraylength, 1, 0, 0, 0, 0), some (.if_icmp .ge 18, 3, 0, 0, 0, 0), none, none, some (.iload_n 1, 1, 0, 0, 0, 0), some (.aload_n 0, 1, 0, 0, 0, 0), some (.getfield 9, 3, 0, 4, 0, 107), none, none, some (.iload_n 2, 1, 0, 0, 0, 0), some (.iaload, 1, 0, 0, 0, 0), some (.iadd, 1, 0, 0, 0, 0), some (.istore_n 1, 1, 0, 0, 0, 0), some (.iinc 2 1, 3, 0, 0, 0, 0), none, none, some (.goto (-32), 3, 0, 0, 0, 0), none, none, some (.iload_n 1, 1, 0, 0, 0, 0), some (.ireturn, 1, 0, 0, 0, 0)]
def xk_38 : List (Option xQ) := [some (.iconst 0, 1, 0, 0, 0, 0), some (.istore_n 2, 1, 0, 0, 0, 0), some (.iconst 0, 1, 0, 0, 0, 0), some (.istore_n 3, 1, 0, 0, 0, 0), some (.iload_n 3, 1, 0, 0, 0, 0), some (.aload_n 0, 1, 0, 0, 0, 0), some (.getfield 15, 3, 0, 4, 1, 108), none, none, some (.if_icmp .ge 37, 3, 0, 0, 0, 0), none, none, some (.iload_n 1, 1, 0, 0, 0, 0), some (.istore 4, 2, 0, 0, 0, 0), none, some (.iload 4, 2, 0, 0, 0, 0), none, some (.bipush 36, 2, 0, 0, 0, 0), none, some (.if_icmp .ge 21, 3, 0, 0, 0, 0), none, none, some (.iload_n 2, 1, 0, 0, 0, 0), some (.aload_n 0, 1, 0, 0, 0, 0), some (.iload_n 3, 1, 0, 0, 0, 0), some (.iload 4, 2, 0, 0, 0, 0), none, some (.invokevirtual 35, 3, 0, 30, 0, 433), none, none, some (.invokestatic 45, 3, 7, 0, 0, 685), none, none, some (.istore_n 2, 1, 0, 0, 0, 0), some (.iinc 4 1, 3, 0, 0, 0, 0), none, none, some (.goto (-22), 3, 0, 0, 0, 0), none, none, some (.iinc 3 1, 3, 0, 0, 0, 0), none, none, some (.goto (-39), 3, 0, 0, 0, 0), none, none, some (.iload_n 2, 1, 0, 0, 0, 0), some (.ireturn, 1, 0, 0, 0, 0)]
def xk_39 : List (Option xQ) := [some (.aload_n 0, 1, 0, 0, 0, 0), some (.invokespecial 1, 3, 1, 88, 0, 236), none, none, some (.return_, 1, 0, 0, 0, 0)]
def xk_40 : List (Option xQ) := [some (.iload_n 2, 1, 0, 0, 0, 0), some (.invokestatic 7, 3, 0, 53, 0, 598), none, none, some (.istore_n 3, 1, 0, 0, 0, 0), some (.iload_n 1, 1, 0, 0, 0, 0), some (.tableswitch 159 2 8 #[42, 62, 82, 94, 115, 129, 142], 42, 0, 0, 0, 0), none, none, none, none, none, none, none, none, none, none, none, none, none, none, none, none, none, none, none, none, none, none, none, none, none, none, none, none, none, none, none, none, none, none, none, none, none, none, none, none, none, some (.iload_n 3, 1, 0, 0, 0, 0), some (.ifCond .ne 7, 3, 0, 0, 0, 0), none, none, some (.iconst (-1), 1, 0, 0, 0, 0), some (.goto 14, 3, 0, 0, 0, 0), none, none, some (.iload_n 2, 1, 0, 0, 0, 0), some (.bipush 48, 2, 0, 0, 0, 0), none, some (.if_icmp .ne 7, 3, 0, 0, 0, 0), none, none, some (.iconst 4, 1, 0, 0, 0, 0), some (.goto 4, 3, 0, 0, 0, 0), none, none, some (.iconst 3, 1, 0, 0, 0, 0), some (.ireturn, 1, 0, 0, 0, 0), some (.iload_n 3, 1, 0, 0, 0, 0), some (.ifCond .eq 7, 3, 0, 0, 0, 0), none, none, some (.iconst 4, 1, 0, 0, 0, 0), some (.goto 14, 3, 0, 0, 0, 0), none, none, some (.iload_n 2, 1, 0, 0, 0, 0), some (.bipush 46, 2, 0, 0, 0, 0), none, some (.if_icmp .ne 7, 3, 0, 0, 0, 0), none, none, some (.iconst 5, 1, 0, 0, 0, 0), some (.goto 4, 3, 0, 0, 0, 0), none, none, some (.iconst (-1), 1, 0, 0, 0, 0), some (.ireturn, 1, 0, 0, 0, 0), some (.iload_n 2, 1, 0, 0, 0, 0), some (.bipush 46, 2, 0, 0, 0, 0), none, some (.if_icmp .ne 7, 3, 0, 0, 0, 0), none, none, some (.iconst 5, 1, 0, 0, 0, 0), some (.goto 4, 3, 0, 0, 0, 0), none, none, some (.iconst (-1), 1, 0, 0, 0, 0), some (.ireturn, 1, 0, 0, 0, 0), some (.iload_n 3, 1, 0, 0, 0, 0), some (.ifCond .ne 7, 3, 0, 0, 0, 0), none, none, some (.iconst (-1), 1, 0, 0, 0, 0), some (.goto 15, 3, 0, 0, 0, 0), none, none, some (.iload_n 2, 1, 0, 0, 0, 0), some (.bipush 48, 2, 0, 0, 0, 0), none, some (.if_icmp .ne 7, 3, 0, 0, 0, 0), none, none, some (.iconst 1, 1, 0, 0, 0, 0), some (.goto 5, 3, 0, 0, 0, 0), none, none, some (.bipush 6, 2, 0, 0, 0, 0), none, some (.ireturn, 1, 0, 0, 0, 0), some (.iload_n 3, 1, 0, 0, 0, 0), some (.ifCond .eq 8, 3, 0, 0, 0, 0), none, none, some (.bipush 7, 2, 0, 0, 0, 0), none, some (.goto 7, 3, 0, 0, 0, 0), none, none, some (.iload_n 2, 1, 0, 0, 0, 0), some (.invokestatic 15, 3, 0, 41, 0, 601), none, none, some (.ireturn, 1, 0, 0, 0, 0), some (.iload_n 3, 1, 0, 0, 0, 0), some (.ifCond .eq 7, 3, 0, 0, 0, 0), none, none, some (.iconst 1, 1, 0, 0, 0, 0), some (.goto 7, 3, 0, 0, 0, 0), none, none, some (.iload_n 2, 1, 0, 0, 0, 0), some (.invokestatic 15, 3, 0, 41, 0, 601), none, none, some (.ireturn, 1, 0, 0, 0, 0), some (.iload_n 3, 1, 0, 0, 0, 0), some (.ifCond .eq 14, 3, 0, 0, 0, 0), none, none, some (.iload_n 2, 1, 0, 0, 0, 0), some (.bipush 48, 2, 0, 0, 0, 0), none, some (.if_icmp .eq 8, 3, 0, 0, 0, 0), none, none, some (.bipush 7, 2, 0, 0, 0, 0), none, some (.goto 4, 3, 0, 0, 0, 0), none, none, some (.iconst (-1), 1, 0, 0, 0, 0), some (.ireturn, 1, 0, 0, 0, 0), some (.iload_n 2, 1, 0, 0, 0, 0), some (.invokestatic 15, 3, 0, 41, 0, 601), none, none, some (.ireturn, 1, 0, 0, 0, 0)]
def xk_41 : List (Option xQ) := [some (.iload_n 0, 1, 0, 0, 0, 0), some (.tableswitch 94 104 121 #[89, 94, 94, 94, 94, 94, 94, 94, 87, 94, 94, 87, 91, 94, 87, 94, 87, 87], 87, 0, 0, 0, 0), none, none, none, none, none, none, none, none, none, none, none, none, none, none, none, none, none, none, none, none, none, none, none, none, none, none, none, none, none, none, none, none, none, none, none, none, none, none, none, none, none, none, none, none, none, none, none, none, none, none, none, none, none, none, none, none, none, none, none, none, none, none, none, none, none, none, none, none, none, none, none, none, none, none, none, none, none, none, none, none, none, none, none, none, none, none, some (.iconst 1, 1, 0, 0, 0, 0), some (.ireturn, 1, 0, 0, 0, 0), some (.iconst 2, 1, 0, 0, 0, 0), some (.ireturn, 1, 0, 0, 0, 0), some (.bipush 8, 2, 0, 0, 0, 0), none, some (.ireturn, 1, 0, 0, 0, 0), some (.iconst (-1), 1, 0, 0, 0, 0), some (.ireturn, 1, 0, 0, 0, 0)]
def xk_42 : List (Option xQ) := [some (.iload_n 1, 1, 0, 0, 0, 0), some (.iconst 1, 1, 0, 0, 0, 0), some (.if_icmp .eq 15, 3, 0, 0, 0, 0), none, none, some (.iload_n 1, 1, 0, 0, 0, 0), some (.bipush 6, 2, 0, 0, 0, 0), none, some (.if_icmp .eq 9, 3, 0, 0, 0, 0), none, none, some (.iload_n 1, 1, 0, 0, 0, 0), some (.bipush 7, 2, 0, 0, 0, 0), none, some (.if_icmp .ne 7, 3, 0, 0, 0, 0), none, none, some (.iconst 1, 1, 0, 0, 0, 0), some (.goto 4, 3, 0, 0, 0, 0), none, none, some (.iconst 0, 1, 0, 0, 0, 0), some (.ireturn, 1, 0, 0, 0, 0)]
def xk_43 : List (Option xQ) := [some (.aload_n 0, 1, 0, 0, 0, 0), some (.invokespecial 3, 3, 6, 0, 0, 222), none, none, some (.aload_n 0, 1, 0, 0, 0, 0), some (.bipush 60, 2, 0, 0, 0, 0), none, some (.newarray .char, 2, 0, 102, 0, 230), none, some (.putfield 9, 3, 0, 6, 0, 223), none, none, some (.return_, 1, 0, 0, 0, 0)]
def xk_44 : List (Option xQ) := [some (.aload_n 0, 1, 0, 0, 0, 0), some (.getfield 15, 3, 0, 6, 1, 224), none, none, some (.ireturn, 1, 0, 0, 0, 0)]
def xk_45 : List (Option xQ) := [some (.iload_n 1, 1, 0, 0, 0, 0), some (.bipush 33, 2, 0, 0, 0, 0), none, some (.if_icmp .lt 9, 3, 0, 0, 0, 0), none, none, some (.iload_n 1, 1, 0, 0, 0, 0), some (.bipush 126, 2, 0, 0, 0, 0), none, some (.if_icmp .le 5, 3, 0, 0, 0, 0), none, none, some (.iconst (-1), 1, 0, 0, 0, 0), some (.ireturn, 1, 0, 0, 0, 0), some (.aload_n 0, 1, 0, 0, 0, 0), some (.getfield 15, 3, 0, 6, 1, 224), none, none, some (.ifCond .lt 15, 3, 0, 0, 0, 0), none, none, some (.aload_n 0, 1, 0, 0, 0, 0), some (.getfield 15, 3, 0, 6, 1, 224), none, none, some (.aload_n 0, 1, 0, 0, 0, 0), some (.getfield 9, 3, 0, 6, 0, 223), none, none, some (.arraylength, 1, 0, 0, 0, 0), some (.if_icmp .lt 6, 3, 0, 0, 0, 0), none, none, some (.bipush (-3), 2, 0, 0, 0, 0), none, some (.ireturn, 1, 0, 0, 0, 0), some (.aload_n 0, 1, 0, 0, 0, 0), some (.getfield 9, 3, 0, 6, 0, 223), none, none, some (.aload_n 0, 1, 0, 0, 0, 0), some (.getfield 15, 3, 0, 6, 1, 224), none, none, some (.iload_n 1, 1, 0, 0, 0, 0), some (.i2c, 1, 0, 0, 0, 0), some (.castore, 1, 0, 0, 0, 0), some (.aload_n 0, 1, 0, 0, 0, 0), some (.dup, 1, 0, 0, 0, 0), some (.getfield 15, 3, 0, 6, 1, 224), none, none, some (.iconst 1, 1, 0, 0, 0, 0), some (.iadd, 1, 0, 0, 0, 0), some (.putfield 15, 3, 0, 6, 1, 224), none, none, some (.aload_n 0, 1, 0, 0, 0, 0), some (.getfield 15, 3, 0, 6, 1, 224), none, none, some (.ireturn, 1, 0, 0, 0, 0)]
def xk_46 : List (Option xQ) := [some (.aload_n 0, 1, 0, 0, 0, 0), some (.getfield 15, 3, 0, 6, 1, 224), none, none, some (.istore_n 1, 1, 0, 0, 0, 0), some (.aload_n 0, 1, 0, 0, 0, 0), some (.iconst 0, 1, 0, 0, 0, 0), some (.putfield 15, 3, 0, 6, 1, 224), none, none, some (.iload_n 1, 1, 0, 0, 0, 0), some (.ireturn, 1, 0, 0, 0, 0)]
def xk_47 : List (Option xQ) := [some (.iload_n 1, 1, 0, 0, 0, 0), some (.ifCond .lt 29, 3, 0, 0, 0, 0), none, none, some (.iload_n 1, 1, 0, 0, 0, 0), some (.aload_n 0, 1, 0, 0, 0, 0), some (.getfield 15, 3, 0, 6, 1, 224), none, none, some (.if_icmp .ge 21, 3, 0, 0, 0, 0), none, none, some (.iload_n 1, 1, 0, 0, 0, 0), some (.aload_n 0, 1, 0, 0, 0, 0), some (.getfield 9, 3, 0, 6, 0, 223), none, none, some (.arraylength, 1, 0, 0, 0, 0), some (.if_icmp .ge 12, 3, 0, 0, 0, 0), none, none, some (.aload_n 0, 1, 0, 0, 0, 0), some (.getfield 9, 3, 0, 6, 0, 223), none, none, some (.iload_n 1, 1, 0, 0, 0, 0), some (.caload, 1, 0, 0, 0, 0), some (.goto 4, 3, 0, 0, 0, 0), none, none, some (.iconst 0, 1, 0, 0, 0, 0), some (.ireturn, 1, 0, 0, 0, 0)]
def xk_48 : List (Option xQ) := [some (.aload_n 0, 1, 0, 0, 0, 0), some (.iload_n 1, 1, 0, 0, 0, 0), some (.invokevirtual 19, 3, 0, 47, 0, 588), none, none, some (.bipush 97, 2, 0, 0, 0, 0), none, some (.if_icmp .lt 17, 3, 0, 0, 0, 0), none, none, some (.aload_n 0, 1, 0, 0, 0, 0), some (.iload_n 1, 1, 0, 0, 0, 0), some (.invokevirtual 19, 3, 0, 47, 0, 588), none, none, some (.bipush 122, 2, 0, 0, 0, 0), none, some (.if_icmp .gt 7, 3, 0, 0, 0, 0), none, none, some (.iconst 1, 1, 0, 0, 0, 0), some (.goto 4, 3, 0, 0, 0, 0), none, none, some (.iconst 0, 1, 0, 0, 0, 0), some (.ireturn, 1, 0, 0, 0, 0)]
def xk_49 : List (Option xQ) := [some (.iload_n 1, 1, 0, 0, 0, 0), some (.istore_n 2, 1, 0, 0, 0, 0), some (.iload_n 2, 1, 0, 0, 0, 0), some (.aload_n 0, 1, 0, 0, 0, 0), some (.getfield 15, 3, 0, 6, 1, 224), none, none, some (.if_icmp .ge 20, 3, 0, 0, 0, 0), none, none, some (.aload_n 0, 1, 0, 0, 0, 0), some (.iload_n 2, 1, 0, 0, 0, 0), some (.invokevirtual 19, 3, 0, 47, 0, 588), none, none, some (.invokestatic 23, 3, 0, 53, 0, 653), none, none, some (.ifCond .eq 9, 3, 0, 0, 0, 0), none, none, some (.iinc 2 1, 3, 0, 0, 0, 0), none, none, some (.goto (-22), 3, 0, 0, 0, 0), none, none, some (.iload_n 2, 1, 0, 0, 0, 0), some (.ireturn, 1, 0, 0, 0, 0)]
def xk_50 : List (Option xQ) := [some (.iconst 0, 1, 0, 0, 0, 0), some (.istore_n 2, 1, 0, 0, 0, 0), some (.aload_n 0, 1, 0, 0, 0, 0), some (.iload_n 1, 1, 0, 0, 0, 0), some (.invokevirtual 27, 3, 0, 49, 0, 649), none, none, some (.istore_n 3, 1, 0, 0, 0, 0), some (.iload_n 1, 1, 0, 0, 0, 0), some (.istore 4, 2, 0, 0, 0, 0), none, some (.iload 4, 2, 0, 0, 0, 0), none, some (.iload_n 3, 1, 0, 0, 0, 0), some (.if_icmp .ge 24, 3, 0, 0, 0, 0), none, none, some (.bipush 10, 2, 0, 0, 0, 0), none, some (.iload_n 2, 1, 0, 0, 0, 0), some (.imul, 1, 0, 0, 0, 0), some (.aload_n 0, 1, 0, 0, 0, 0), some (.iload 4, 2, 0, 0, 0, 0), none, some (.invokevirtual 19, 3, 0, 47, 0, 588), none, none, some (.iadd, 1, 0, 0, 0, 0), some (.bipush 48, 2, 0, 0, 0, 0), none, some (.isub, 1, 0, 0, 0, 0), some (.istore_n 2, 1, 0, 0, 0, 0), some (.iinc 4 1, 3, 0, 0, 0, 0), none, none, some (.goto (-24), 3, 0, 0, 0, 0), none, none, some (.iload_n 2, 1, 0, 0, 0, 0), some (.ireturn, 1, 0, 0, 0, 0)]
def xk_51 : List (Option xQ) := [some (.iconst 0, 1, 0, 0, 0, 0), some (.istore_n 2, 1, 0, 0, 0, 0), some (.iconst 0, 1, 0, 0, 0, 0), some (.istore_n 3, 1, 0, 0, 0, 0), some (.iload_n 3, 1, 0, 0, 0, 0), some (.aload_n 0, 1, 0, 0, 0, 0), some (.getfield 15, 3, 0, 6, 1, 224), none, none, some (.if_icmp .ge 27, 3, 0, 0, 0, 0), none, none, some (.aload_n 1, 1, 0, 0, 0, 0), some (.iload_n 2, 1, 0, 0, 0, 0), some (.aload_n 0, 1, 0, 0, 0, 0), some (.iload_n 3, 1, 0, 0, 0, 0), some (.invokevirtual 19, 3, 0, 47, 0, 588), none, none, some (.invokevirtual 33, 3, 11, 0, 0, 592), none, none, some (.istore_n 2, 1, 0, 0, 0, 0), some (.iload_n 2, 1, 0, 0, 0, 0), some (.iconst (-1), 1, 0, 0, 0, 0), some (.if_icmp .ne 5, 3, 0, 0, 0, 0), none, none, some (.iload_n 3, 1, 0, 0, 0, 0), some (.ireturn, 1, 0, 0, 0, 0), some (.iinc 3 1, 3, 0, 0, 0, 0), none, none, some (.goto (-29), 3, 0, 0, 0, 0), none, none, some (.aload_n 1, 1, 0, 0, 0, 0), some (.iload_n 2, 1, 0, 0, 0, 0), some (.invokevirtual 37, 3, 11, 1, 0, 611), none, none, some (.ifCond .eq 8, 3, 0, 0, 0, 0), none, none, some (.bipush (-4), 2, 0, 0, 0, 0), none, some (.goto 7, 3, 0, 0, 0, 0), none, none, some (.aload_n 0, 1, 0, 0, 0, 0), some (.getfield 15, 3, 0, 6, 1, 224), none, none, some (.ireturn, 1, 0, 0, 0, 0)]
def xk_52 : List (Option xQ) := [some (.iconst 0, 1, 0, 0, 0, 0), some (.istore_n 2, 1, 0, 0, 0, 0), some (.iconst 0, 1, 0, 0, 0, 0), some (.istore_n 3, 1, 0, 0, 0, 0), some (.iload_n 3, 1, 0, 0, 0, 0), some (.aload_n 0, 1, 0, 0, 0, 0), some (.getfield 15, 3, 0, 6, 1, 224), none, none, some (.if_icmp .ge 54, 3, 0, 0, 0, 0), none, none, some (.iload_n 3, 1, 0, 0, 0, 0), some (.ifCond .eq 15, 3, 0, 0, 0, 0), none, none, some (.aload_n 0, 1, 0, 0, 0, 0), some (.iload_n 3, 1, 0, 0, 0, 0), some (.iconst 1, 1, 0, 0, 0, 0), some (.isub, 1, 0, 0, 0, 0), some (.invokevirtual 19, 3, 0, 47, 0, 588), none, none, some (.bipush 44, 2, 0, 0, 0, 0), none, some (.if_icmp .ne 7, 3, 0, 0, 0, 0), none, none, some (.iconst 1, 1, 0, 0, 0, 0), some (.goto 4, 3, 0, 0, 0, 0), none, none, some (.iconst 0, 1, 0, 0, 0, 0), some (.istore 4, 2, 0, 0, 0, 0), none, some (.iload 4, 2, 0, 0, 0, 0), none, some (.ifCond .eq 20, 3, 0, 0, 0, 0), none, none, some (.iload_n 2, 1, 0, 0, 0, 0), some (.aload_n 1, 1, 0, 0, 0, 0), some (.arraylength, 1, 0, 0, 0, 0), some (.if_icmp .ge 14, 3, 0, 0, 0, 0), none, none, some (.aload_n 1, 1, 0, 0, 0, 0), some (.iload_n 2, 1, 0, 0, 0, 0), some (.aload_n 0, 1, 0, 0, 0, 0), some (.iload_n 3, 1, 0, 0, 0, 0), some (.invokevirtual 41, 3, 0, 50, 0, 776), none, none, some (.iastore, 1, 0, 0, 0, 0), some (.iinc 2 1, 3, 0, 0, 0, 0), none, none, some (.iinc 3 1, 3, 0, 0, 0, 0), none, none, some (.goto (-56), 3, 0, 0, 0, 0), none, none, some (.iload_n 2, 1, 0, 0, 0, 0), some (.ireturn, 1, 0, 0, 0, 0)]
def xk_53 : List (Option xQ) := [some (.iload_n 0, 1, 0, 0, 0, 0), some (.bipush 48, 2, 0, 0, 0, 0), none, some (.if_icmp .lt 13, 3, 0, 0, 0, 0), none, none, some (.iload_n 0, 1, 0, 0, 0, 0), some (.bipush 57, 2, 0, 0, 0, 0), none, some (.if_icmp .gt 7, 3, 0, 0, 0, 0), none, none, some (.iconst 1, 1, 0, 0, 0, 0), some (.goto 4, 3, 0, 0, 0, 0), none, none, some (.iconst 0, 1, 0, 0, 0, 0), some (.ireturn, 1, 0, 0, 0, 0)]
def xk_54 : List (Option xQ) := [some (.aload_n 0, 1, 0, 0, 0, 0), some (.invokespecial 3, 3, 6, 0, 0, 92), none, none, some (.aload_n 0, 1, 0, 0, 0, 0), some (.iconst 3, 1, 0, 0, 0, 0), some (.newarray .int, 2, 0, 100, 0, 114), none, some (.dup, 1, 0, 0, 0, 0), some (.iconst 0, 1, 0, 0, 0, 0), some (.bipush 8, 2, 0, 0, 0, 0), none, some (.iastore, 1, 0, 0, 0, 0), some (.dup, 1, 0, 0, 0, 0), some (.iconst 1, 1, 0, 0, 0, 0), some (.iconst 1, 1, 0, 0, 0, 0), some (.iastore, 1, 0, 0, 0, 0), some (.dup, 1, 0, 0, 0, 0), some (.iconst 2, 1, 0, 0, 0, 0), some (.iconst 0, 1, 0, 0, 0, 0), some (.iastore, 1, 0, 0, 0, 0), some (.putfield 9, 3, 0, 7, 0, 154), none, none, some (.aload_n 0, 1, 0, 0, 0, 0), some (.bipush 6, 2, 0, 0, 0, 0), none, some (.anewarray 15, 3, 0, 104, 0, 93), none, none, some (.putfield 17, 3, 0, 7, 1, 155), none, none, some (.aload_n 0, 1, 0, 0, 0, 0), some (.new 21, 3, 0, 8, 0, 95), none, none, some (.dup, 1, 0, 0, 0, 0), some (.invokespecial 23, 3, 1, 89, 0, 97), none, none, some (.putfield 24, 3, 0, 7, 2, 156), none, none, some (.iconst 0, 1, 0, 0, 0, 0), some (.istore_n 1, 1, 0, 0, 0, 0), some (.iload_n 1, 1, 0, 0, 0, 0), some (.aload_n 0, 1, 0, 0, 0, 0), some (.getfield 17, 3, 0, 7, 1, 155), none, none, some (.arraylength, 1, 0, 0, 0, 0), some (.if_icmp .ge 22, 3, 0, 0, 0, 0), none, none, some (.aload_n 0, 1, 0, 0, 0, 0), some (.getfield 17, 3, 0, 7, 1, 155), none, none, some (.iload_n 1, 1, 0, 0, 0, 0), some (.new 15, 3, 0, 3, 0, 93), none, none, some (.dup, 1, 0, 0, 0, 0), some (.invokespecial 28, 3, 1, 26, 0, 131), none, none, some (.aastore, 1, 0, 0, 0, 0), some (.iinc 1 1, 3, 0, 0, 0, 0), none, none, some (.goto (-25), 3, 0, 0, 0, 0), none, none, some (.return_, 1, 0, 0, 0, 0)]
def xk_55 : List (Option xQ) := [some (.iconst 0, 1, 0, 0, 0, 0), some (.istore_n 2, 1, 0, 0, 0, 0), some (.iload_n 2, 1, 0, 0, 0, 0), some (.aload_n 0, 1, 0, 0, 0, 0), some (.getfield 9, 3, 0, 7, 0, 154), none, none, some (.arraylength, 1, 0, 0, 0, 0), some (.if_icmp .ge 20, 3, 0, 0, 0, 0), none, none, some (.aload_n 0, 1, 0, 0, 0, 0), some (.getfield 9, 3, 0, 7, 0, 154), none, none, some (.iload_n 2, 1, 0, 0, 0, 0), some (.aload_n 1, 1, 0, 0, 0, 0), some (.iload_n 2, 1, 0, 0, 0, 0), some (.invokevirtual 29, 3, 0, 59, 0, 333), none, none, some (.iastore, 1, 0, 0, 0, 0), some (.iinc 2 1, 3, 0, 0, 0, 0), none, none, some (.goto (-23), 3, 0, 0, 0, 0), none, none, some (.aload_n 0, 1, 0, 0, 0, 0), some (.aload_n 1, 1, 0, 0, 0, 0), some (.getfield 33, 3, 0, 7, 3, 158), none, none, some (.putfield 33, 3, 0, 7, 3, 158), none, none, some (.aload_n 0, 1, 0, 0, 0, 0), some (.aload_n 1, 1, 0, 0, 0, 0), some (.getfield 37, 3, 0, 7, 4, 160), none, none, some (.putfield 37, 3, 0, 7, 4, 160), none, none, some (.aload_n 0, 1, 0, 0, 0, 0), some (.aload_n 1, 1, 0, 0, 0, 0), some (.getfield 41, 3, 0, 7, 5, 162), none, none, some (.putfield 41, 3, 0, 7, 5, 162), none, none, some (.aload_n 0, 1, 0, 0, 0, 0), some (.aload_n 1, 1, 0, 0, 0, 0), some (.getfield 44, 3, 0, 7, 6, 165), none, none, some (.putfield 44, 3, 0, 7, 6, 165), none, none, some (.aload_n 0, 1, 0, 0, 0, 0), some (.aload_n 1, 1, 0, 0, 0, 0), some (.getfield 47, 3, 0, 7, 7, 167), none, none, some (.putfield 47, 3, 0, 7, 7, 167), none, none, some (.aload_n 0, 1, 0, 0, 0, 0), some (.aload_n 1, 1, 0, 0, 0, 0), some (.getfield 50, 3, 0, 7, 8, 169), none, none, some (.putfield 50, 3, 0, 7, 8, 169), none, none, some (.aload_n 0, 1, 0, 0, 0, 0), some (.aload_n 1, 1, 0, 0, 0, 0), some (.getfield 53, 3, 0, 7, 9, 171), none, none, some (.putfield 53, 3, 0, 7, 9, 171), none, none, some (.aload_n 0, 1, 0, 0, 0, 0), some (.aload_n 1, 1, 0, 0, 0, 0), some (.getfield 56, 3, 0, 7, 10, 173), none, none, some (.putfield 56, 3, 0, 7, 10, 173), none, none, some (.aload_n 0, 1, 0, 0, 0, 0), some (.invokevirtual 59, 3, 0, 60, 0, 337), none, none, some (.ifCond .eq 14, 3, 0, 0, 0, 0), none, none, some (.aload_n 0, 1, 0, 0, 0, 0), some (.getfield 24, 3, 0, 7, 2, 156), none, none, some (.aload_n 1, 1, 0, 0, 0, 0), some (.getfield 24, 3, 0, 7, 2, 156), none, none, some (.invokevirtual 63, 3, 0, 91, 0, 341), none, none, some (.iconst 0, 1, 0, 0, 0, 0), some (.istore_n 2, 1, 0, 0, 0, 0), some (.iload_n 2, 1, 0, 0, 0, 0), some (.aload_n 0, 1, 0, 0, 0, 0), some (.getfield 41, 3, 0, 7, 5, 162), none, none, some (.aload_n 0, 1, 0, 0, 0, 0), some (.getfield 44, 3, 0, 7, 6, 165), none, none, some (.iadd, 1, 0, 0, 0, 0), some (.if_icmp .ge 22, 3, 0, 0, 0, 0), none, none, some (.aload_n 0, 1, 0, 0, 0, 0), some (.iload_n 2, 1, 0, 0, 0, 0), some (.invokevirtual 67, 3, 0, 57, 0, 356), none, none, some (.aload_n 1, 1, 0, 0, 0, 0), some (.iload_n 2, 1, 0, 0, 0, 0), some (.invokevirtual 67, 3, 0, 57, 0, 356), none, none, some (.invokestatic 71, 3, 0, 56, 0, 360), none, none, some (.iinc 2 1, 3, 0, 0, 0, 0), none, none, some (.goto (-29), 3, 0, 0, 0, 0), none, none, some (.return_, 1, 0, 0, 0, 0)]
def xk_56 : List (Option xQ) := [some (.aload_n 0, 1, 0, 0, 0, 0), some (.ifnull 12, 3, 0, 0, 0, 0), none, none, some (.aload_n 1, 1, 0, 0, 0, 0), some (.ifnull 8, 3, 0, 0, 0, 0), none, none, some (.aload_n 0, 1, 0, 0, 0, 0), some (.aload_n 1, 1, 0, 0, 0, 0), some (.invokevirtual 75, 3, 0, 27, 0, 363), none, none, some (.return_, 1, 0, 0, 0, 0)]
def xk_57 : List (Option xQ) := [some (.iload_n 1, 1, 0, 0, 0, 0), some (.ifCond .lt 21, 3, 0, 0, 0, 0), none, none, some (.iload_n 1, 1, 0, 0, 0, 0), some (.aload_n 0, 1, 0, 0, 0, 0), some (.getfield 17, 3, 0, 7, 1, 155), none, none, some (.arraylength, 1, 0, 0, 0, 0), some (.if_icmp .ge 12, 3, 0, 0, 0, 0), none, none, some (.aload_n 0, 1, 0, 0, 0, 0), some (.getfield 17, 3, 0, 7, 1, 155), none, none, some (.iload_n 1, 1, 0, 0, 0, 0), some (.aaload, 1, 0, 0, 0, 0), some (.goto 4, 3, 0, 0, 0, 0), none, none, some (.aconst_null, 1, 0, 0, 0, 0), some (.areturn, 1, 0, 0, 0, 0)]
def xk_58 : List (Option xQ) := [some (.iload_n 1, 1, 0, 0, 0, 0), some (.aload_n 0, 1, 0, 0, 0, 0), some (.getfield 41, 3, 0, 7, 5, 162), none, none, some (.if_icmp .ge 11, 3, 0, 0, 0, 0), none, none, some (.aload_n 0, 1, 0, 0, 0, 0), some (.iload_n 1, 1, 0, 0, 0, 0), some (.invokevirtual 67, 3, 0, 57, 0, 356), none, none, some (.goto 4, 3, 0, 0, 0, 0), none, none, some (.aconst_null, 1, 0, 0, 0, 0), some (.areturn, 1, 0, 0, 0, 0)]
def xk_59 : List (Option xQ) := [some (.iload_n 1, 1, 0, 0, 0, 0), some (.ifCond .lt 21, 3, 0, 0, 0, 0), none, none, some (.iload_n 1, 1, 0, 0, 0, 0), some (.aload_n 0, 1, 0, 0, 0, 0), some (.getfield 9, 3, 0, 7, 0, 154), none, none, some (.arraylength, 1, 0, 0, 0, 0), some (.if_icmp .ge 12, 3, 0, 0, 0, 0), none, none, some (.aload_n 0, 1, 0, 0, 0, 0), some (.getfield 9, 3, 0, 7, 0, 154), none, none, some (.iload_n 1, 1, 0, 0, 0, 0), some (.iaload, 1, 0, 0, 0, 0), some (.goto 4, 3, 0, 0, 0, 0), none, none, some (.iconst 0, 1, 0, 0, 0, 0), some (.ireturn, 1, 0, 0, 0, 0)]
def xk_60 : List (Option xQ) := [some (.aload_n 0, 1, 0, 0, 0, 0), some (.getfield 37, 3, 0, 7, 4, 160), none, none, some (.iconst 1, 1, 0, 0, 0, 0), some (.if_icmp .eq 11, 3, 0, 0, 0, 0), none, none, some (.aload_n 0, 1, 0, 0, 0, 0), some (.getfield 37, 3, 0, 7, 4, 160), none, none, some (.iconst 3, 1, 0, 0, 0, 0), some (.if_icmp .ne 7, 3, 0, 0, 0, 0), none, none, some (.iconst 1, 1, 0, 0, 0, 0), some (.goto 4, 3, 0, 0, 0, 0), none, none, some (.iconst 0, 1, 0, 0, 0, 0), some (.ireturn, 1, 0, 0, 0, 0)]
def xk_61 : List (Option xQ) := [some (.aload_n 0, 1, 0, 0, 0, 0), some (.getfield 37, 3, 0, 7, 4, 160), none, none, some (.iconst 2, 1, 0, 0, 0, 0), some (.if_icmp .eq 11, 3, 0, 0, 0, 0), none, none, some (.aload_n 0, 1, 0, 0, 0, 0), some (.getfield 37, 3, 0, 7, 4, 160), none, none, some (.iconst 3, 1, 0, 0, 0, 0), some (.if_icmp .ne 7, 3, 0, 0, 0, 0), none, none, some (.iconst 1, 1, 0, 0, 0, 0), some (.goto 4, 3, 0, 0, 0, 0), none, none, some (.iconst 0, 1, 0, 0, 0, 0), some (.ireturn, 1, 0, 0, 0, 0)]
def xk_62 : List (Option xQ) := [some (.iconst 0, 1, 0, 0, 0, 0), some (.istore_n 2, 1, 0, 0, 0, 0), some (.iconst 0, 1, 0, 0, 0, 0), some (.istore_n 3, 1, 0, 0, 0, 0), some (.iload_n 3, 1, 0, 0, 0, 0), some (.iload_n 1, 1, 0, 0, 0, 0), some (.if_icmp .ge 34, 3, 0, 0, 0, 0), none, none, some (.aload_n 0, 1, 0, 0, 0, 0), some (.iload_n 3, 1, 0, 0, 0, 0), some (.invokevirtual 67, 3, 0, 57, 0, 356), none, none, some (.astore 4, 2, 0, 0, 0, 0), none, some (.aload 4, 2, 0, 0, 0, 0), none, some (.ifnull 16, 3, 0, 0, 0, 0), none, none, some (.iload_n 2, 1, 0, 0, 0, 0), some (.aload 4, 2, 0, 0, 0, 0), none, some (.getfield 78, 3, 1, 3, 0, 139), none, none, some (.invokevirtual 82, 3, 0, 29, 0, 397), none, none, some (.invokestatic 88, 3, 7, 0, 0, 425), none, none, some (.istore_n 2, 1, 0, 0, 0, 0), some (.iinc 3 1, 3, 0, 0, 0, 0), none, none, some (.goto (-33), 3, 0, 0, 0, 0), none, none, some (.iload_n 2, 1, 0, 0, 0, 0), some (.ireturn, 1, 0, 0, 0, 0)]
def xk_63 : List (Option xQ) := [some (.aload_n 0, 1, 0, 0, 0, 0), some (.iconst 0, 1, 0, 0, 0, 0), some (.invokevirtual 94, 3, 0, 58, 0, 393), none, none, some (.astore_n 1, 1, 0, 0, 0, 0), some (.aload_n 1, 1, 0, 0, 0, 0), some (.ifnonnull 7, 3, 0, 0, 0, 0), none, none, some (.iconst 0, 1, 0, 0, 0, 0), some (.goto 10, 3, 0, 0, 0, 0), none, none, some (.aload_n 1, 1, 0, 0, 0, 0), some (.getfield 78, 3, 1, 3, 0, 139), none, none, some (.invokevirtual 82, 3, 0, 29, 0, 397), none, none, some (.ireturn, 1, 0, 0, 0, 0)]
def xk_64 : List (Option xQ) := [some (.iload_n 1, 1, 0, 0, 0, 0), some (.ifCond .lt 19, 3, 0, 0, 0, 0), none, none, some (.iload_n 1, 1, 0, 0, 0, 0), some (.aload_n 0, 1, 0, 0, 0, 0), some (.aload_n 0, 1, 0, 0, 0, 0), some (.getfield 41, 3, 0, 7, 5, 162), none, none, some (.invokevirtual 97, 3, 0, 62, 0, 421), none, none, some (.if_icmp .ge 7, 3, 0, 0, 0, 0), none, none, some (.iconst 1, 1, 0, 0, 0, 0), some (.goto 4, 3, 0, 0, 0, 0), none, none, some (.iconst 0, 1, 0, 0, 0, 0), some (.ireturn, 1, 0, 0, 0, 0)]
def xk_65 : List (Option xQ) := [some (.aload_n 0, 1, 0, 0, 0, 0), some (.getfield 33, 3, 0, 7, 3, 158), none, none, some (.ifCond .eq 8, 3, 0, 0, 0, 0), none, none, some (.bipush 12, 2, 0, 0, 0, 0), none, some (.goto 4, 3, 0, 0, 0, 0), none, none, some (.iconst 0, 1, 0, 0, 0, 0), some (.ireturn, 1, 0, 0, 0, 0)]
def xk_66 : List (Option xQ) := [some (.aload_n 0, 1, 0, 0, 0, 0), some (.iload_n 1, 1, 0, 0, 0, 0), some (.invokevirtual 94, 3, 0, 58, 0, 393), none, none, some (.astore_n 2, 1, 0, 0, 0, 0), some (.aload_n 2, 1, 0, 0, 0, 0), some (.ifnull 10, 3, 0, 0, 0, 0), none, none, some (.aload_n 2, 1, 0, 0, 0, 0), some (.getfield 100, 3, 1, 3, 1, 142), none, none, some (.ifCond .eq 7, 3, 0, 0, 0, 0), none, none, some (.aconst_null, 1, 0, 0, 0, 0), some (.goto 4, 3, 0, 0, 0, 0), none, none, some (.aload_n 2, 1, 0, 0, 0, 0), some (.areturn, 1, 0, 0, 0, 0)]
def xk_67 : List (Option xQ) := [some (.iconst 0, 1, 0, 0, 0, 0), some (.istore_n 1, 1, 0, 0, 0, 0), some (.iconst 0, 1, 0, 0, 0, 0), some (.istore_n 2, 1, 0, 0, 0, 0), some (.iload_n 2, 1, 0, 0, 0, 0), some (.aload_n 0, 1, 0, 0, 0, 0), some (.getfield 41, 3, 0, 7, 5, 162), none, none, some (.if_icmp .ge 35, 3, 0, 0, 0, 0), none, none, some (.aload_n 0, 1, 0, 0, 0, 0), some (.iload_n 2, 1, 0, 0, 0, 0), some (.invokevirtual 103, 3, 0, 66, 0, 833), none, none, some (.astore_n 3, 1, 0, 0, 0, 0), some (.aload_n 3, 1, 0, 0, 0, 0), some (.ifnull 19, 3, 0, 0, 0, 0), none, none, some (.iload_n 1, 1, 0, 0, 0, 0), some (.aload_n 3, 1, 0, 0, 0, 0), some (.getfield 78, 3, 1, 3, 0, 139), none, none, some (.aload_n 0, 1, 0, 0, 0, 0), some (.invokevirtual 106, 3, 0, 65, 0, 481), none, none, some (.invokevirtual 109, 3, 0, 38, 0, 834), none, none, some (.invokestatic 88, 3, 7, 0, 0, 425), none, none, some (.istore_n 1, 1, 0, 0, 0, 0), some (.iinc 2 1, 3, 0, 0, 0, 0), none, none, some (.goto (-37), 3, 0, 0, 0, 0), none, none, some (.iload_n 1, 1, 0, 0, 0, 0), some (.ireturn, 1, 0, 0, 0, 0)]
def xk_68 : List (Option xQ) := [some (.aload_n 0, 1, 0, 0, 0, 0), some (.iconst 0, 1, 0, 0, 0, 0), some (.invokevirtual 29, 3, 0, 59, 0, 333), none, none, some (.istore_n 2, 1, 0, 0, 0, 0), some (.iload_n 1, 1, 0, 0, 0, 0), some (.istore_n 3, 1, 0, 0, 0, 0), some (.aload_n 0, 1, 0, 0, 0, 0), some (.iconst 1, 1, 0, 0, 0, 0), some (.invokevirtual 29, 3, 0, 59, 0, 333), none, none, some (.iconst 1, 1, 0, 0, 0, 0), some (.iadd, 1, 0, 0, 0, 0), some (.istore 4, 2, 0, 0, 0, 0), none, some (.iconst 1, 1, 0, 0, 0, 0), some (.istore 5, 2, 0, 0, 0, 0), none, some (.iload 5, 2, 0, 0, 0, 0), none, some (.bipush 24, 2, 0, 0, 0, 0), none, some (.if_icmp .gt 45, 3, 0, 0, 0, 0), none, none, some (.iload 5, 2, 0, 0, 0, 0), none, some (.iload_n 2, 1, 0, 0, 0, 0), some (.imul, 1, 0, 0, 0, 0), some (.bipush 24, 2, 0, 0, 0, 0), none, some (.if_icmp .gt 36, 3, 0, 0, 0, 0), none, none, some (.iload 5, 2, 0, 0, 0, 0), none, some (.iload_n 2, 1, 0, 0, 0, 0), some (.imul, 1, 0, 0, 0, 0), some (.iload_n 1, 1, 0, 0, 0, 0), some (.isub, 1, 0, 0, 0, 0), some (.invokestatic 112, 3, 9, 0, 0, 413), none, none, some (.istore 6, 2, 0, 0, 0, 0), none, some (.iload 6, 2, 0, 0, 0, 0), none, some (.iload 4, 2, 0, 0, 0, 0), none, some (.if_icmp .ge 12, 3, 0, 0, 0, 0), none, none, some (.iload 6, 2, 0, 0, 0, 0), none, some (.istore 4, 2, 0, 0, 0, 0), none, some (.iload 5, 2, 0, 0, 0, 0), none, some (.iload_n 2, 1, 0, 0, 0, 0), some (.imul, 1, 0, 0, 0, 0), some (.istore_n 3, 1, 0, 0, 0, 0), some (.iinc 5 1, 3, 0, 0, 0, 0), none, none, some (.goto (-46), 3, 0, 0, 0, 0), none, none, some (.iload_n 3, 1, 0, 0, 0, 0), some (.ireturn, 1, 0, 0, 0, 0)]
def xk_69 : List (Option xQ) := [some (.aload_n 0, 1, 0, 0, 0, 0), some (.getfield 37, 3, 0, 7, 4, 160), none, none, some (.tableswitch 51 0 4 #[36, 51, 41, 51, 46], 36, 0, 0, 0, 0), none, none, none, none, none, none, none, none, none, none, none, none, none, none, none, none, none, none, none, none, none, none, none, none, none, none, none, none, none, none, none, none, none, none, none, some (.aload_n 0, 1, 0, 0, 0, 0), some (.invokevirtual 115, 3, 0, 70, 0, 373), none, none, some (.ireturn, 1, 0, 0, 0, 0), some (.aload_n 0, 1, 0, 0, 0, 0), some (.invokevirtual 118, 3, 0, 71, 0, 385), none, none, some (.ireturn, 1, 0, 0, 0, 0), some (.aload_n 0, 1, 0, 0, 0, 0), some (.invokevirtual 121, 3, 0, 72, 0, 398), none, none, some (.ireturn, 1, 0, 0, 0, 0), some (.aload_n 0, 1, 0, 0, 0, 0), some (.invokevirtual 124, 3, 0, 73, 0, 402), none, none, some (.ireturn, 1, 0, 0, 0, 0)]
def xk_70 : List (Option xQ) := [some (.aload_n 0, 1, 0, 0, 0, 0), some (.getfield 24, 3, 0, 7, 2, 156), none, none, some (.bipush 24, 2, 0, 0, 0, 0), none, some (.iconst 0, 1, 0, 0, 0, 0), some (.invokevirtual 127, 3, 0, 90, 0, 377), none, none, some (.aload_n 0, 1, 0, 0, 0, 0), some (.iconst 1, 1, 0, 0, 0, 0), some (.putfield 37, 3, 0, 7, 4, 160), none, none, some (.aload_n 0, 1, 0, 0, 0, 0), some (.getfield 37, 3, 0, 7, 4, 160), none, none, some (.ireturn, 1, 0, 0, 0, 0)]
def xk_71 : List (Option xQ) := [some (.aload_n 0, 1, 0, 0, 0, 0), some (.getfield 41, 3, 0, 7, 5, 162), none, none, some (.bipush 6, 2, 0, 0, 0, 0), none, some (.if_icmp .lt 6, 3, 0, 0, 0, 0), none, none, some (.bipush (-3), 2, 0, 0, 0, 0), none, some (.ireturn, 1, 0, 0, 0, 0), some (.aload_n 0, 1, 0, 0, 0, 0), some (.getfield 24, 3, 0, 7, 2, 156), none, none, some (.iconst 2, 1, 0, 0, 0, 0), some (.aload_n 0, 1, 0, 0, 0, 0), some (.invokevirtual 131, 3, 0, 63, 0, 389), none, none, some (.imul, 1, 0, 0, 0, 0), some (.aload_n 0, 1, 0, 0, 0, 0), some (.getfield 47, 3, 0, 7, 7, 167), none, none, some (.invokevirtual 127, 3, 0, 90, 0, 377), none, none, some (.aload_n 0, 1, 0, 0, 0, 0), some (.iconst 3, 1, 0, 0, 0, 0), some (.putfield 37, 3, 0, 7, 4, 160), none, none, some (.aload_n 0, 1, 0, 0, 0, 0), some (.getfield 37, 3, 0, 7, 4, 160), none, none, some (.ireturn, 1, 0, 0, 0, 0)]
def xk_72 : List (Option xQ) := [some (.aload_n 0, 1, 0, 0, 0, 0), some (.iconst 0, 1, 0, 0, 0, 0), some (.putfield 47, 3, 0, 7, 7, 167), none, none, some (.aload_n 0, 1, 0, 0, 0, 0), some (.iconst 0, 1, 0, 0, 0, 0), some (.putfield 50, 3, 0, 7, 8, 169), none, none, some (.aload_n 0, 1, 0, 0, 0, 0), some (.iconst 0, 1, 0, 0, 0, 0), some (.putfield 53, 3, 0, 7, 9, 171), none, none, some (.aload_n 0, 1, 0, 0, 0, 0), some (.iconst 2, 1, 0, 0, 0, 0), some (.putfield 37, 3, 0, 7, 4, 160), none, none, some (.aload_n 0, 1, 0, 0, 0, 0), some (.getfield 37, 3, 0, 7, 4, 160), none, none, some (.ireturn, 1, 0, 0, 0, 0)]
def xk_73 : List (Option xQ) := [some (.aload_n 0, 1, 0, 0, 0, 0), some (.getfield 24, 3, 0, 7, 2, 156), none, none, some (.getfield 134, 3, 1, 8, 1, 119), none, none, some (.ifCond .ne 6, 3, 0, 0, 0, 0), none, none, some (.bipush (-2), 2, 0, 0, 0, 0), none, some (.ireturn, 1, 0, 0, 0, 0), some (.aload_n 0, 1, 0, 0, 0, 0), some (.getfield 37, 3, 0, 7, 4, 160), none, none, some (.iconst 1, 1, 0, 0, 0, 0), some (.if_icmp .ne 32, 3, 0, 0, 0, 0), none, none, some (.aload_n 0, 1, 0, 0, 0, 0), some (.aload_n 0, 1, 0, 0, 0, 0), some (.aload_n 0, 1, 0, 0, 0, 0), some (.getfield 24, 3, 0, 7, 2, 156), none, none, some (.getfield 134, 3, 1, 8, 1, 119), none, none, some (.iconst 1, 1, 0, 0, 0, 0), some (.iadd, 1, 0, 0, 0, 0), some (.iconst 2, 1, 0, 0, 0, 0), some (.idiv, 1, 0, 0, 0, 0), some (.bipush 24, 2, 0, 0, 0, 0), none, some (.invokestatic 137, 3, 8, 0, 0, 406), none, none, some (.invokevirtual 140, 3, 0, 68, 0, 409), none, none, some (.invokevirtual 143, 3, 0, 74, 0, 416), none, none, some (.aload_n 0, 1, 0, 0, 0, 0), some (.invokevirtual 121, 3, 0, 72, 0, 398), none, none, some (.ireturn, 1, 0, 0, 0, 0), some (.aload_n 0, 1, 0, 0, 0, 0), some (.invokevirtual 131, 3, 0, 63, 0, 389), none, none, some (.istore_n 1, 1, 0, 0, 0, 0), some (.aload_n 0, 1, 0, 0, 0, 0), some (.aload_n 0, 1, 0, 0, 0, 0), some (.getfield 41, 3, 0, 7, 5, 162), none, none, some (.invokevirtual 97, 3, 0, 62, 0, 421), none, none, some (.iload_n 1, 1, 0, 0, 0, 0), some (.if_icmp .gt 16, 3, 0, 0, 0, 0), none, none, some (.aload_n 0, 1, 0, 0, 0, 0), some (.getfield 24, 3, 0, 7, 2, 156), none, none, some (.getfield 134, 3, 1, 8, 1, 119), none, none, some (.iconst 2, 1, 0, 0, 0, 0), some (.iload_n 1, 1, 0, 0, 0, 0), some (.imul, 1, 0, 0, 0, 0), some (.if_icmp .le 38, 3, 0, 0, 0, 0), none, none, some (.aload_n 0, 1, 0, 0, 0, 0), some (.aload_n 0, 1, 0, 0, 0, 0), some (.getfield 24, 3, 0, 7, 2, 156), none, none, some (.getfield 147, 3, 1, 8, 2, 122), none, none, some (.aload_n 0, 1, 0, 0, 0, 0), some (.getfield 24, 3, 0, 7, 2, 156), none, none, some (.getfield 134, 3, 1, 8, 1, 119), none, none, some (.iadd, 1, 0, 0, 0, 0), some (.iconst 4, 1, 0, 0, 0, 0), some (.iload_n 1, 1, 0, 0, 0, 0), some (.imul, 1, 0, 0, 0, 0), some (.invokestatic 150, 3, 1, 134, 0, 428), none, none, some (.putfield 47, 3, 0, 7, 7, 167), none, none, some (.aload_n 0, 1, 0, 0, 0, 0), some (.iconst 2, 1, 0, 0, 0, 0), some (.iload_n 1, 1, 0, 0, 0, 0), some (.imul, 1, 0, 0, 0, 0), some (.invokevirtual 143, 3, 0, 74, 0, 416), none, none, some (.goto 19, 3, 0, 0, 0, 0), none, none, some (.aload_n 0, 1, 0, 0, 0, 0), some (.getfield 24, 3, 0, 7, 2, 156), none, none, some (.getfield 153, 3, 1, 8, 0, 116), none, none, some (.iload_n 1, 1, 0, 0, 0, 0), some (.invokevirtual 154, 3, 0, 34, 0, 429), none, none, some (.aload_n 0, 1, 0, 0, 0, 0), some (.iload_n 1, 1, 0, 0, 0, 0), some (.invokevirtual 143, 3, 0, 74, 0, 416), none, none, some (.aload_n 0, 1, 0, 0, 0, 0), some (.iconst 2, 1, 0, 0, 0, 0), some (.putfield 37, 3, 0, 7, 4, 160), none, none, some (.aload_n 0, 1, 0, 0, 0, 0), some (.getfield 37, 3, 0, 7, 4, 160), none, none, some (.ireturn, 1, 0, 0, 0, 0)]
def xk_74 : List (Option xQ) := [some (.aload_n 0, 1, 0, 0, 0, 0), some (.aload_n 0, 1, 0, 0, 0, 0), some (.getfield 41, 3, 0, 7, 5, 162), none, none, some (.invokevirtual 67, 3, 0, 57, 0, 356), none, none, some (.astore_n 2, 1, 0, 0, 0, 0), some (.aload_n 2, 1, 0, 0, 0, 0), some (.ifnonnull 4, 3, 0, 0, 0, 0), none, none, some (.return_, 1, 0, 0, 0, 0), some (.aload_n 2, 1, 0, 0, 0, 0), some (.getfield 78, 3, 1, 3, 0, 139), none, none, some (.aload_n 0, 1, 0, 0, 0, 0), some (.getfield 24, 3, 0, 7, 2, 156), none, none, some (.getfield 153, 3, 1, 8, 0, 116), none, none, some (.iload_n 1, 1, 0, 0, 0, 0), some (.invokevirtual 157, 3, 0, 33, 0, 420), none, none, some (.aload_n 2, 1, 0, 0, 0, 0), some (.iconst 0, 1, 0, 0, 0, 0), some (.putfield 100, 3, 1, 3, 1, 142), none, none, some (.aload_n 2, 1, 0, 0, 0, 0), some (.iconst 0, 1, 0, 0, 0, 0), some (.putfield 160, 3, 1, 3, 2, 146), none, none, some (.aload_n 0, 1, 0, 0, 0, 0), some (.dup, 1, 0, 0, 0, 0), some (.getfield 41, 3, 0, 7, 5, 162), none, none, some (.iconst 1, 1, 0, 0, 0, 0), some (.iadd, 1, 0, 0, 0, 0), some (.putfield 41, 3, 0, 7, 5, 162), none, none, some (.aload_n 0, 1, 0, 0, 0, 0), some (.iconst 0, 1, 0, 0, 0, 0), some (.putfield 44, 3, 0, 7, 6, 165), none, none, some (.aload_n 0, 1, 0, 0, 0, 0), some (.dup, 1, 0, 0, 0, 0), some (.getfield 56, 3, 0, 7, 10, 173), none, none, some (.iconst 1, 1, 0, 0, 0, 0), some (.iadd, 1, 0, 0, 0, 0), some (.putfield 56, 3, 0, 7, 10, 173), none, none, some (.return_, 1, 0, 0, 0, 0)]
def xk_75 : List (Option xQ) := [some (.aload_n 0, 1, 0, 0, 0, 0), some (.getfield 37, 3, 0, 7, 4, 160), none, none, some (.ifCond .eq 11, 3, 0, 0, 0, 0), none, none, some (.aload_n 0, 1, 0, 0, 0, 0), some (.getfield 37, 3, 0, 7, 4, 160), none, none, some (.iconst 4, 1, 0, 0, 0, 0), some (.if_icmp .ne 6, 3, 0, 0, 0, 0), none, none, some (.bipush (-2), 2, 0, 0, 0, 0), none, some (.ireturn, 1, 0, 0, 0, 0), some (.aload_n 0, 1, 0, 0, 0, 0), some (.aload_n 0, 1, 0, 0, 0, 0), some (.getfield 37, 3, 0, 7, 4, 160), none, none, some (.iconst 1, 1, 0, 0, 0, 0), some (.if_icmp .ne 7, 3, 0, 0, 0, 0), none, none, some (.iconst 0, 1, 0, 0, 0, 0), some (.goto 4, 3, 0, 0, 0, 0), none, none, some (.iconst 4, 1, 0, 0, 0, 0), some (.putfield 37, 3, 0, 7, 4, 160), none, none, some (.aload_n 0, 1, 0, 0, 0, 0), some (.getfield 37, 3, 0, 7, 4, 160), none, none, some (.ireturn, 1, 0, 0, 0, 0)]
def xk_76 : List (Option xQ) := [some (.aload_n 0, 1, 0, 0, 0, 0), some (.getfield 37, 3, 0, 7, 4, 160), none, none, some (.ifCond .ne 6, 3, 0, 0, 0, 0), none, none, some (.bipush (-2), 2, 0, 0, 0, 0), none, some (.ireturn, 1, 0, 0, 0, 0), some (.aload_n 0, 1, 0, 0, 0, 0), some (.getfield 41, 3, 0, 7, 5, 162), none, none, some (.istore_n 1, 1, 0, 0, 0, 0), some (.aload_n 0, 1, 0, 0, 0, 0), some (.iconst 0, 1, 0, 0, 0, 0), some (.putfield 41, 3, 0, 7, 5, 162), none, none, some (.aload_n 0, 1, 0, 0, 0, 0), some (.iconst 0, 1, 0, 0, 0, 0), some (.putfield 44, 3, 0, 7, 6, 165), none, none, some (.aload_n 0, 1, 0, 0, 0, 0), some (.iconst 0, 1, 0, 0, 0, 0), some (.putfield 47, 3, 0, 7, 7, 167), none, none, some (.aload_n 0, 1, 0, 0, 0, 0), some (.iconst 0, 1, 0, 0, 0, 0), some (.putfield 50, 3, 0, 7, 8, 169), none, none, some (.aload_n 0, 1, 0, 0, 0, 0), some (.iconst 0, 1, 0, 0, 0, 0), some (.putfield 53, 3, 0, 7, 9, 171), none, none, some (.aload_n 0, 1, 0, 0, 0, 0), some (.iconst 0, 1, 0, 0, 0, 0), some (.putfield 37, 3, 0, 7, 4, 160), none, none, some (.iload_n 1, 1, 0, 0, 0, 0), some (.ireturn, 1, 0, 0, 0, 0)]
def xk_77 : List (Option xQ) := [some (.iload_n 1, 1, 0, 0, 0, 0), some (.ifCond .lt 20, 3, 0, 0, 0, 0), none, none, some (.iload_n 1, 1, 0, 0, 0, 0), some (.bipush 24, 2, 0, 0, 0, 0), none, some (.if_icmp .ge 14, 3, 0, 0, 0, 0), none, none, some (.iload_n 2, 1, 0, 0, 0, 0), some (.iconst 1, 1, 0, 0, 0, 0), some (.if_icmp .lt 9, 3, 0, 0, 0, 0), none, none, some (.iload_n 2, 1, 0, 0, 0, 0), some (.bipush 99, 2, 0, 0, 0, 0), none, some (.if_icmp .le 5, 3, 0, 0, 0, 0), none, none, some (.iconst (-1), 1, 0, 0, 0, 0), some (.ireturn, 1, 0, 0, 0, 0), some (.aload_n 0, 1, 0, 0, 0, 0), some (.invokevirtual 59, 3, 0, 60, 0, 337), none, none, some (.ifCond .ne 6, 3, 0, 0, 0, 0), none, none, some (.bipush (-2), 2, 0, 0, 0, 0), none, some (.ireturn, 1, 0, 0, 0, 0), some (.aload_n 0, 1, 0, 0, 0, 0), some (.getfield 24, 3, 0, 7, 2, 156), none, none, some (.getfield 153, 3, 1, 8, 0, 116), none, none, some (.aload_n 0, 1, 0, 0, 0, 0), some (.invokevirtual 161, 3, 0, 78, 0, 477), none, none, some (.iload_n 1, 1, 0, 0, 0, 0), some (.aload_n 0, 1, 0, 0, 0, 0), some (.invokevirtual 106, 3, 0, 65, 0, 481), none, none, some (.iadd, 1, 0, 0, 0, 0), some (.iload_n 2, 1, 0, 0, 0, 0), some (.invokevirtual 164, 3, 0, 31, 0, 485), none, none, some (.ireturn, 1, 0, 0, 0, 0)]
def xk_78 : List (Option xQ) := [some (.aload_n 0, 1, 0, 0, 0, 0), some (.getfield 24, 3, 0, 7, 2, 156), none, none, some (.getfield 147, 3, 1, 8, 2, 122), none, none, some (.aload_n 0, 1, 0, 0, 0, 0), some (.getfield 24, 3, 0, 7, 2, 156), none, none, some (.getfield 134, 3, 1, 8, 1, 119), none, none, some (.iadd, 1, 0, 0, 0, 0), some (.iconst 2, 1, 0, 0, 0, 0), some (.idiv, 1, 0, 0, 0, 0), some (.istore_n 1, 1, 0, 0, 0, 0), some (.aload_n 0, 1, 0, 0, 0, 0), some (.getfield 37, 3, 0, 7, 4, 160), none, none, some (.iconst 1, 1, 0, 0, 0, 0), some (.if_icmp .ne 7, 3, 0, 0, 0, 0), none, none, some (.iload_n 1, 1, 0, 0, 0, 0), some (.goto 13, 3, 0, 0, 0, 0), none, none, some (.iload_n 1, 1, 0, 0, 0, 0), some (.iconst 2, 1, 0, 0, 0, 0), some (.aload_n 0, 1, 0, 0, 0, 0), some (.invokevirtual 131, 3, 0, 63, 0, 389), none, none, some (.imul, 1, 0, 0, 0, 0), some (.invokestatic 150, 3, 1, 134, 0, 428), none, none, some (.ireturn, 1, 0, 0, 0, 0)]
def xk_79 : List (Option xQ) := [some (.iload_n 1, 1, 0, 0, 0, 0), some (.iconst 1, 1, 0, 0, 0, 0), some (.if_icmp .lt 9, 3, 0, 0, 0, 0), none, none, some (.iload_n 1, 1, 0, 0, 0, 0), some (.bipush 99, 2, 0, 0, 0, 0), none, some (.if_icmp .le 5, 3, 0, 0, 0, 0), none, none, some (.iconst (-1), 1, 0, 0, 0, 0), some (.ireturn, 1, 0, 0, 0, 0), some (.aload_n 0, 1, 0, 0, 0, 0), some (.getfield 33, 3, 0, 7, 3, 158), none, none, some (.ifCond .eq 7, 3, 0, 0, 0, 0), none, none, some (.iconst 1, 1, 0, 0, 0, 0), some (.goto 4, 3, 0, 0, 0, 0), none, none, some (.iconst 2, 1, 0, 0, 0, 0), some (.istore_n 2, 1, 0, 0, 0, 0), some (.iconst 0, 1, 0, 0, 0, 0), some (.istore_n 3, 1, 0, 0, 0, 0), some (.iconst 0, 1, 0, 0, 0, 0), some (.istore 4, 2, 0, 0, 0, 0), none, some (.iload 4, 2, 0, 0, 0, 0), none, some (.iload_n 1, 1, 0, 0, 0, 0), some (.if_icmp .ge 70, 3, 0, 0, 0, 0), none, none, some (.iload_n 3, 1, 0, 0, 0, 0), some (.aload_n 0, 1, 0, 0, 0, 0), some (.invokevirtual 168, 3, 0, 61, 0, 494), none, none, some (.ifCond .eq 11, 3, 0, 0, 0, 0), none, none, some (.aload_n 0, 1, 0, 0, 0, 0), some (.iload_n 2, 1, 0, 0, 0, 0), some (.invokevirtual 171, 3, 0, 81, 0, 498), none, none, some (.goto 4, 3, 0, 0, 0, 0), none, none, some (.iconst 0, 1, 0, 0, 0, 0), some (.iadd, 1, 0, 0, 0, 0), some (.istore_n 3, 1, 0, 0, 0, 0), some (.aload_n 0, 1, 0, 0, 0, 0), some (.invokevirtual 59, 3, 0, 60, 0, 337), none, none, some (.ifCond .ne 6, 3, 0, 0, 0, 0), none, none, some (.goto 35, 3, 0, 0, 0, 0), none, none, some (.aload_n 0, 1, 0, 0, 0, 0), some (.getfield 24, 3, 0, 7, 2, 156), none, none, some (.dup, 1, 0, 0, 0, 0), some (.getfield 134, 3, 1, 8, 1, 119), none, none, some (.iload_n 2, 1, 0, 0, 0, 0), some (.iadd, 1, 0, 0, 0, 0), some (.putfield 134, 3, 1, 8, 1, 119), none, none, some (.aload_n 0, 1, 0, 0, 0, 0), some (.getfield 24, 3, 0, 7, 2, 156), none, none, some (.getfield 134, 3, 1, 8, 1, 119), none, none, some (.aload_n 0, 1, 0, 0, 0, 0), some (.invokevirtual 174, 3, 0, 80, 0, 513), none, none, some (.if_icmp .lt 8, 3, 0, 0, 0, 0), none, none, some (.aload_n 0, 1, 0, 0, 0, 0), some (.invokevirtual 124, 3, 0, 73, 0, 402), none, none, some (.pop, 1, 0, 0, 0, 0), some (.iinc 4 1, 3, 0, 0, 0, 0), none, none, some (.goto (-70), 3, 0, 0, 0, 0), none, none, some (.iload_n 3, 1, 0, 0, 0, 0), some (.ireturn, 1, 0, 0, 0, 0)]
def xk_80 : List (Option xQ) := [some (.aload_n 0, 1, 0, 0, 0, 0), some (.getfield 37, 3, 0, 7, 4, 160), none, none, some (.iconst 1, 1, 0, 0, 0, 0), some (.if_icmp .ne 8, 3, 0, 0, 0, 0), none, none, some (.bipush 48, 2, 0, 0, 0, 0), none, some (.goto 9, 3, 0, 0, 0, 0), none, none, some (.iconst 4, 1, 0, 0, 0, 0), some (.aload_n 0, 1, 0, 0, 0, 0), some (.invokevirtual 131, 3, 0, 63, 0, 389), none, none, some (.imul, 1, 0, 0, 0, 0), some (.ireturn, 1, 0, 0, 0, 0)]
def xk_81 : List (Option xQ) := [some (.iconst 2, 1, 0, 0, 0, 0), some (.aload_n 0, 1, 0, 0, 0, 0), some (.aload_n 0, 1, 0, 0, 0, 0), some (.getfield 41, 3, 0, 7, 5, 162), none, none, some (.invokevirtual 97, 3, 0, 62, 0, 421), none, none, some (.imul, 1, 0, 0, 0, 0), some (.istore_n 2, 1, 0, 0, 0, 0), some (.aload_n 0, 1, 0, 0, 0, 0), some (.dup, 1, 0, 0, 0, 0), some (.getfield 47, 3, 0, 7, 7, 167), none, none, some (.iload_n 1, 1, 0, 0, 0, 0), some (.iadd, 1, 0, 0, 0, 0), some (.putfield 47, 3, 0, 7, 7, 167), none, none, some (.aload_n 0, 1, 0, 0, 0, 0), some (.dup, 1, 0, 0, 0, 0), some (.getfield 53, 3, 0, 7, 9, 171), none, none, some (.iload_n 1, 1, 0, 0, 0, 0), some (.iadd, 1, 0, 0, 0, 0), some (.putfield 53, 3, 0, 7, 9, 171), none, none, some (.aload_n 0, 1, 0, 0, 0, 0), some (.getfield 47, 3, 0, 7, 7, 167), none, none, some (.iload_n 2, 1, 0, 0, 0, 0), some (.if_icmp .ge 5, 3, 0, 0, 0, 0), none, none, some (.iconst 0, 1, 0, 0, 0, 0), some (.ireturn, 1, 0, 0, 0, 0), some (.aload_n 0, 1, 0, 0, 0, 0), some (.dup, 1, 0, 0, 0, 0), some (.getfield 47, 3, 0, 7, 7, 167), none, none, some (.iload_n 2, 1, 0, 0, 0, 0), some (.isub, 1, 0, 0, 0, 0), some (.putfield 47, 3, 0, 7, 7, 167), none, none, some (.aload_n 0, 1, 0, 0, 0, 0), some (.dup, 1, 0, 0, 0, 0), some (.getfield 50, 3, 0, 7, 8, 169), none, none, some (.iconst 1, 1, 0, 0, 0, 0), some (.iadd, 1, 0, 0, 0, 0), some (.putfield 50, 3, 0, 7, 8, 169), none, none, some (.aload_n 0, 1, 0, 0, 0, 0), some (.invokevirtual 177, 3, 0, 82, 0, 502), none, none, some (.iconst 1, 1, 0, 0, 0, 0), some (.ireturn, 1, 0, 0, 0, 0)]
def xk_82 : List (Option xQ) := [some (.iconst 0, 1, 0, 0, 0, 0), some (.istore_n 1, 1, 0, 0, 0, 0), some (.iload_n 1, 1, 0, 0, 0, 0), some (.aload_n 0, 1, 0, 0, 0, 0), some (.getfield 41, 3, 0, 7, 5, 162), none, none, some (.if_icmp .ge 41, 3, 0, 0, 0, 0), none, none, some (.aload_n 0, 1, 0, 0, 0, 0), some (.iload_n 1, 1, 0, 0, 0, 0), some (.invokevirtual 67, 3, 0, 57, 0, 356), none, none, some (.astore_n 2, 1, 0, 0, 0, 0), some (.aload_n 2, 1, 0, 0, 0, 0), some (.ifnull 25, 3, 0, 0, 0, 0), none, none, some (.aload_n 2, 1, 0, 0, 0, 0), some (.getfield 78, 3, 1, 3, 0, 139), none, none, some (.aload_n 0, 1, 0, 0, 0, 0), some (.iconst 2, 1, 0, 0, 0, 0), some (.invokevirtual 29, 3, 0, 59, 0, 333), none, none, some (.invokevirtual 180, 3, 0, 35, 0, 506), none, none, some (.aload_n 2, 1, 0, 0, 0, 0), some (.dup, 1, 0, 0, 0, 0), some (.getfield 160, 3, 1, 3, 2, 146), none, none, some (.iconst 1, 1, 0, 0, 0, 0), some (.iadd, 1, 0, 0, 0, 0), some (.putfield 160, 3, 1, 3, 2, 146), none, none, some (.iinc 1 1, 3, 0, 0, 0, 0), none, none, some (.goto (-43), 3, 0, 0, 0, 0), none, none, some (.return_, 1, 0, 0, 0, 0)]
def xk_83 : List (Option xQ) := [some (.aload_n 0, 1, 0, 0, 0, 0), some (.invokevirtual 59, 3, 0, 60, 0, 337), none, none, some (.ifCond .ne 11, 3, 0, 0, 0, 0), none, none, some (.aload_n 0, 1, 0, 0, 0, 0), some (.getfield 41, 3, 0, 7, 5, 162), none, none, some (.iconst 2, 1, 0, 0, 0, 0), some (.if_icmp .ge 6, 3, 0, 0, 0, 0), none, none, some (.bipush (-2), 2, 0, 0, 0, 0), none, some (.ireturn, 1, 0, 0, 0, 0), some (.aload_n 0, 1, 0, 0, 0, 0), some (.dup, 1, 0, 0, 0, 0), some (.getfield 41, 3, 0, 7, 5, 162), none, none, some (.iconst 1, 1, 0, 0, 0, 0), some (.isub, 1, 0, 0, 0, 0), some (.putfield 41, 3, 0, 7, 5, 162), none, none, some (.aload_n 0, 1, 0, 0, 0, 0), some (.dup, 1, 0, 0, 0, 0), some (.getfield 44, 3, 0, 7, 6, 165), none, none, some (.iconst 1, 1, 0, 0, 0, 0), some (.iadd, 1, 0, 0, 0, 0), some (.putfield 44, 3, 0, 7, 6, 165), none, none, some (.aload_n 0, 1, 0, 0, 0, 0), some (.aload_n 0, 1, 0, 0, 0, 0), some (.getfield 47, 3, 0, 7, 7, 167), none, none, some (.iconst 2, 1, 0, 0, 0, 0), some (.aload_n 0, 1, 0, 0, 0, 0), some (.aload_n 0, 1, 0, 0, 0, 0), some (.getfield 41, 3, 0, 7, 5, 162), none, none, some (.invokevirtual 97, 3, 0, 62, 0, 421), none, none, some (.imul, 1, 0, 0, 0, 0), some (.invokestatic 150, 3, 1, 134, 0, 428), none, none, some (.putfield 47, 3, 0, 7, 7, 167), none, none, some (.aload_n 0, 1, 0, 0, 0, 0), some (.getfield 41, 3, 0, 7, 5, 162), none, none, some (.ireturn, 1, 0, 0, 0, 0)]
def xk_84 : List (Option xQ) := [some (.aload_n 0, 1, 0, 0, 0, 0), some (.invokevirtual 59, 3, 0, 60, 0, 337), none, none, some (.ifCond .ne 10, 3, 0, 0, 0, 0), none, none, some (.aload_n 0, 1, 0, 0, 0, 0), some (.getfield 44, 3, 0, 7, 6, 165), none, none, some (.ifCond .ne 6, 3, 0, 0, 0, 0), none, none, some (.bipush (-2), 2, 0, 0, 0, 0), none, some (.ireturn, 1, 0, 0, 0, 0), some (.aload_n 0, 1, 0, 0, 0, 0), some (.dup, 1, 0, 0, 0, 0), some (.getfield 41, 3, 0, 7, 5, 162), none, none, some (.iconst 1, 1, 0, 0, 0, 0), some (.iadd, 1, 0, 0, 0, 0), some (.putfield 41, 3, 0, 7, 5, 162), none, none, some (.aload_n 0, 1, 0, 0, 0, 0), some (.dup, 1, 0, 0, 0, 0), some (.getfield 44, 3, 0, 7, 6, 165), none, none, some (.iconst 1, 1, 0, 0, 0, 0), some (.isub, 1, 0, 0, 0, 0), some (.putfield 44, 3, 0, 7, 6, 165), none, none, some (.aload_n 0, 1, 0, 0, 0, 0), some (.getfield 41, 3, 0, 7, 5, 162), none, none, some (.ireturn, 1, 0, 0, 0, 0)]
def xk_85 : List (Option xQ) := [some (.aload_n 0, 1, 0, 0, 0, 0), some (.iload_n 1, 1, 0, 0, 0, 0), some (.invokevirtual 94, 3, 0, 58, 0, 393), none, none, some (.astore_n 2, 1, 0, 0, 0, 0), some (.aload_n 2, 1, 0, 0, 0, 0), some (.ifnonnull 5, 3, 0, 0, 0, 0), none, none, some (.iconst (-1), 1, 0, 0, 0, 0), some (.ireturn, 1, 0, 0, 0, 0), some (.aload_n 2, 1, 0, 0, 0, 0), some (.aload_n 2, 1, 0, 0, 0, 0), some (.getfield 100, 3, 1, 3, 1, 142), none, none, some (.ifCond .ne 7, 3, 0, 0, 0, 0), none, none, some (.iconst 1, 1, 0, 0, 0, 0), some (.goto 4, 3, 0, 0, 0, 0), none, none, some (.iconst 0, 1, 0, 0, 0, 0), some (.putfield 100, 3, 1, 3, 1, 142), none, none, some (.aload_n 2, 1, 0, 0, 0, 0), some (.getfield 100, 3, 1, 3, 1, 142), none, none, some (.ifCond .eq 7, 3, 0, 0, 0, 0), none, none, some (.iconst 1, 1, 0, 0, 0, 0), some (.goto 4, 3, 0, 0, 0, 0), none, none, some (.iconst 0, 1, 0, 0, 0, 0), some (.ireturn, 1, 0, 0, 0, 0)]
def xk_86 : List (Option xQ) := [some (.aload_n 0, 1, 0, 0, 0, 0), some (.aload_n 0, 1, 0, 0, 0, 0), some (.getfield 33, 3, 0, 7, 3, 158), none, none, some (.ifCond .ne 7, 3, 0, 0, 0, 0), none, none, some (.iconst 1, 1, 0, 0, 0, 0), some (.goto 4, 3, 0, 0, 0, 0), none, none, some (.iconst 0, 1, 0, 0, 0, 0), some (.putfield 33, 3, 0, 7, 3, 158), none, none, some (.aload_n 0, 1, 0, 0, 0, 0), some (.getfield 33, 3, 0, 7, 3, 158), none, none, some (.ifCond .eq 7, 3, 0, 0, 0, 0), none, none, some (.iconst 1, 1, 0, 0, 0, 0), some (.goto 4, 3, 0, 0, 0, 0), none, none, some (.iconst 0, 1, 0, 0, 0, 0), some (.ireturn, 1, 0, 0, 0, 0)]
def xk_87 : List (Option xQ) := [some (.iload_n 1, 1, 0, 0, 0, 0), some (.ifCond .lt 20, 3, 0, 0, 0, 0), none, none, some (.iload_n 1, 1, 0, 0, 0, 0), some (.aload_n 0, 1, 0, 0, 0, 0), some (.getfield 9, 3, 0, 7, 0, 154), none, none, some (.arraylength, 1, 0, 0, 0, 0), some (.if_icmp .ge 11, 3, 0, 0, 0, 0), none, none, some (.iload_n 1, 1, 0, 0, 0, 0), some (.iload_n 2, 1, 0, 0, 0, 0), some (.invokestatic 183, 3, 1, 133, 0, 557), none, none, some (.ifCond .ne 5, 3, 0, 0, 0, 0), none, none, some (.iconst (-1), 1, 0, 0, 0, 0), some (.ireturn, 1, 0, 0, 0, 0), some (.aload_n 0, 1, 0, 0, 0, 0), some (.getfield 9, 3, 0, 7, 0, 154), none, none, some (.iload_n 1, 1, 0, 0, 0, 0), some (.iaload, 1, 0, 0, 0, 0), some (.istore_n 3, 1, 0, 0, 0, 0), some (.aload_n 0, 1, 0, 0, 0, 0), some (.getfield 9, 3, 0, 7, 0, 154), none, none, some (.iload_n 1, 1, 0, 0, 0, 0), some (.iload_n 2, 1, 0, 0, 0, 0), some (.iastore, 1, 0, 0, 0, 0), some (.iload_n 3, 1, 0, 0, 0, 0), some (.ireturn, 1, 0, 0, 0, 0)]
def xk_88 : List (Option xQ) := [some (.aload_n 0, 1, 0, 0, 0, 0), some (.invokespecial 1, 3, 6, 0, 0, 239), none, none, some (.return_, 1, 0, 0, 0, 0)]
def xk_89 : List (Option xQ) := [some (.aload_n 0, 1, 0, 0, 0, 0), some (.invokespecial 1, 3, 6, 0, 0, 100), none, none, some (.aload_n 0, 1, 0, 0, 0, 0), some (.new 7, 3, 0, 4, 0, 101), none, none, some (.dup, 1, 0, 0, 0, 0), some (.invokespecial 9, 3, 1, 28, 0, 103), none, none, some (.putfield 10, 3, 0, 8, 0, 115), none, none, some (.return_, 1, 0, 0, 0, 0)]
def xk_90 : List (Option xQ) := [some (.aload_n 0, 1, 0, 0, 0, 0), some (.getfield 10, 3, 0, 8, 0, 115), none, none, some (.iload_n 1, 1, 0, 0, 0, 0), some (.invokevirtual 16, 3, 0, 32, 0, 381), none, none, some (.aload_n 0, 1, 0, 0, 0, 0), some (.iconst 0, 1, 0, 0, 0, 0), some (.putfield 20, 3, 0, 8, 1, 118), none, none, some (.aload_n 0, 1, 0, 0, 0, 0), some (.iload_n 2, 1, 0, 0, 0, 0), some (.putfield 24, 3, 0, 8, 2, 121), none, none, some (.return_, 1, 0, 0, 0, 0)]
def xk_91 : List (Option xQ) := [some (.aload_n 0, 1, 0, 0, 0, 0), some (.getfield 10, 3, 0, 8, 0, 115), none, none, some (.aload_n 1, 1, 0, 0, 0, 0), some (.getfield 10, 3, 0, 8, 0, 115), none, none, some (.aload_n 1, 1, 0, 0, 0, 0), some (.getfield 10, 3, 0, 8, 0, 115), none, none, some (.invokevirtual 27, 3, 0, 29, 0, 345), none, none, some (.invokevirtual 31, 3, 0, 33, 0, 349), none, none, some (.aload_n 0, 1, 0, 0, 0, 0), some (.aload_n 1, 1, 0, 0, 0, 0), some (.getfield 20, 3, 0, 8, 1, 118), none, none, some (.putfield 20, 3, 0, 8, 1, 118), none, none, some (.aload_n 0, 1, 0, 0, 0, 0), some (.aload_n 1, 1, 0, 0, 0, 0), some (.getfield 24, 3, 0, 8, 2, 121), none, none, some (.putfield 24, 3, 0, 8, 2, 121), none, none, some (.return_, 1, 0, 0, 0, 0)]
def xk_92 : List (Option xQ) := [some (.aload_n 0, 1, 0, 0, 0, 0), some (.invokespecial 1, 3, 1, 88, 0, 246), none, none, some (.return_, 1, 0, 0, 0, 0)]
def xk_93 : List (Option xQ) := [some (.iload_n 2, 1, 0, 0, 0, 0), some (.invokestatic 7, 3, 0, 53, 0, 607), none, none, some (.istore_n 3, 1, 0, 0, 0, 0), some (.iload_n 1, 1, 0, 0, 0, 0), some (.ifCond .ne 16, 3, 0, 0, 0, 0), none, none, some (.iload_n 3, 1, 0, 0, 0, 0), some (.ifCond .eq 10, 3, 0, 0, 0, 0), none, none, some (.iload_n 2, 1, 0, 0, 0, 0), some (.invokestatic 13, 3, 0, 94, 0, 608), none, none, some (.goto 4, 3, 0, 0, 0, 0), none, none, some (.iconst (-1), 1, 0, 0, 0, 0), some (.ireturn, 1, 0, 0, 0, 0), some (.iload_n 2, 1, 0, 0, 0, 0), some (.bipush 44, 2, 0, 0, 0, 0), none, some (.if_icmp .ne 5, 3, 0, 0, 0, 0), none, none, some (.iconst 0, 1, 0, 0, 0, 0), some (.ireturn, 1, 0, 0, 0, 0), some (.iload_n 1, 1, 0, 0, 0, 0), some (.iconst 2, 1, 0, 0, 0, 0), some (.if_icmp .ne 9, 3, 0, 0, 0, 0), none, none, some (.iload_n 3, 1, 0, 0, 0, 0), some (.ifCond .eq 5, 3, 0, 0, 0, 0), none, none, some (.iconst 1, 1, 0, 0, 0, 0), some (.ireturn, 1, 0, 0, 0, 0), some (.iload_n 1, 1, 0, 0, 0, 0), some (.iconst 3, 1, 0, 0, 0, 0), some (.if_icmp .ne 17, 3, 0, 0, 0, 0), none, none, some (.iload_n 3, 1, 0, 0, 0, 0), some (.ifCond .eq 13, 3, 0, 0, 0, 0), none, none, some (.iload_n 2, 1, 0, 0, 0, 0), some (.bipush 53, 2, 0, 0, 0, 0), none, some (.if_icmp .gt 7, 3, 0, 0, 0, 0), none, none, some (.iconst 1, 1, 0, 0, 0, 0), some (.goto 4, 3, 0, 0, 0, 0), none, none, some (.iconst (-1), 1, 0, 0, 0, 0), some (.ireturn, 1, 0, 0, 0, 0)]
def xk_94 : List (Option xQ) := [some (.iload_n 0, 1, 0, 0, 0, 0), some (.bipush 49, 2, 0, 0, 0, 0), none, some (.if_icmp .eq 9, 3, 0, 0, 0, 0), none, none, some (.iload_n 0, 1, 0, 0, 0, 0), some (.bipush 50, 2, 0, 0, 0, 0), none, some (.if_icmp .ne 5, 3, 0, 0, 0, 0), none, none, some (.iconst 2, 1, 0, 0, 0, 0), some (.ireturn, 1, 0, 0, 0, 0), some (.iload_n 0, 1, 0, 0, 0, 0), some (.bipush 51, 2, 0, 0, 0, 0), none, some (.if_icmp .ne 7, 3, 0, 0, 0, 0), none, none, some (.iconst 3, 1, 0, 0, 0, 0), some (.goto 4, 3, 0, 0, 0, 0), none, none, some (.iconst 1, 1, 0, 0, 0, 0), some (.ireturn, 1, 0, 0, 0, 0)]
def xk_95 : List (Option xQ) := [some (.iload_n 1, 1, 0, 0, 0, 0), some (.ifCond .eq 7, 3, 0, 0, 0, 0), none, none, some (.iconst 1, 1, 0, 0, 0, 0), some (.goto 4, 3, 0, 0, 0, 0), none, none, some (.iconst 0, 1, 0, 0, 0, 0), some (.ireturn, 1, 0, 0, 0, 0)]
def xk_96 : List (Option xQ) := [some (.aload_n 0, 1, 0, 0, 0, 0), some (.invokespecial 3, 3, 6, 0, 0, 84), none, none, some (.aload_n 0, 1, 0, 0, 0, 0), some (.new 9, 3, 0, 7, 0, 87), none, none, some (.dup, 1, 0, 0, 0, 0), some (.invokespecial 11, 3, 0, 54, 0, 89), none, none, some (.putfield 12, 3, 0, 10, 0, 286), none, none, some (.aload_n 0, 1, 0, 0, 0, 0), some (.new 9, 3, 0, 7, 0, 87), none, none, some (.dup, 1, 0, 0, 0, 0), some (.invokespecial 11, 3, 0, 54, 0, 89), none, none, some (.putfield 16, 3, 0, 10, 1, 287), none, none, some (.aload_n 0, 1, 0, 0, 0, 0), some (.new 19, 3, 0, 2, 0, 198), none, none, some (.dup, 1, 0, 0, 0, 0), some (.invokespecial 21, 3, 0, 20, 0, 200), none, none, some (.putfield 22, 3, 0, 10, 2, 288), none, none, some (.aload_n 0, 1, 0, 0, 0, 0), some (.new 26, 3, 0, 6, 0, 217), none, none, some (.dup, 1, 0, 0, 0, 0), some (.invokespecial 28, 3, 1, 43, 0, 219), none, none, some (.putfield 29, 3, 0, 10, 3, 289), none, none, some (.aload_n 0, 1, 0, 0, 0, 0), some (.new 33, 3, 0, 5, 0, 231), none, none, some (.dup, 1, 0, 0, 0, 0), some (.invokespecial 35, 3, 1, 39, 0, 233), none, none, some (.putfield 36, 3, 0, 10, 4, 290), none, none, some (.aload_n 0, 1, 0, 0, 0, 0), some (.new 40, 3, 0, 9, 0, 241), none, none, some (.dup, 1, 0, 0, 0, 0), some (.invokespecial 42, 3, 1, 92, 0, 243), none, none, some (.putfield 43, 3, 0, 10, 5, 291), none, none, some (.aload_n 0, 1, 0, 0, 0, 0), some (.new 47, 3, 0, 1, 0, 248), none, none, some (.dup, 1, 0, 0, 0, 0), some (.invokespecial 49, 3, 1, 15, 0, 250), none, none, some (.putfield 50, 3, 0, 10, 6, 292), none, none, some (.aload_n 0, 1, 0, 0, 0, 0), some (.new 54, 3, 0, 0, 0, 267), none, none, some (.dup, 1, 0, 0, 0, 0), some (.invokespecial 56, 3, 1, 0, 0, 269), none, none, some (.putfield 57, 3, 0, 10, 7, 293), none, none, some (.return_, 1, 0, 0, 0, 0)]
def xk_97 : List (Option xQ) := [some (.aload_n 0, 1, 0, 0, 0, 0), some (.getfield 22, 3, 0, 10, 2, 288), none, none, some (.aload_n 0, 1, 0, 0, 0, 0), some (.getfield 12, 3, 0, 10, 0, 286), none, none, some (.invokevirtual 61, 3, 0, 23, 0, 318), none, none, some (.aload_n 0, 1, 0, 0, 0, 0), some (.aload_n 0, 1, 0, 0, 0, 0), some (.getfield 12, 3, 0, 10, 0, 286), none, none, some (.invokevirtual 65, 3, 0, 69, 0, 369), none, none, some (.invokevirtual 69, 3, 0, 130, 0, 445), none, none, some (.ireturn, 1, 0, 0, 0, 0)]
def xk_98 : List (Option xQ) := [some (.aload_n 0, 1, 0, 0, 0, 0), some (.getfield 22, 3, 0, 10, 2, 288), none, none, some (.aload_n 0, 1, 0, 0, 0, 0), some (.getfield 12, 3, 0, 10, 0, 286), none, none, some (.invokevirtual 61, 3, 0, 23, 0, 318), none, none, some (.aload_n 0, 1, 0, 0, 0, 0), some (.aload_n 0, 1, 0, 0, 0, 0), some (.getfield 12, 3, 0, 10, 0, 286), none, none, some (.invokevirtual 73, 3, 0, 75, 0, 457), none, none, some (.invokevirtual 69, 3, 0, 130, 0, 445), none, none, some (.ireturn, 1, 0, 0, 0, 0)]
def xk_99 : List (Option xQ) := [some (.aload_n 0, 1, 0, 0, 0, 0), some (.getfield 22, 3, 0, 10, 2, 288), none, none, some (.aload_n 0, 1, 0, 0, 0, 0), some (.getfield 12, 3, 0, 10, 0, 286), none, none, some (.invokevirtual 61, 3, 0, 23, 0, 318), none, none, some (.aload_n 0, 1, 0, 0, 0, 0), some (.aload_n 0, 1, 0, 0, 0, 0), some (.getfield 12, 3, 0, 10, 0, 286), none, none, some (.invokevirtual 76, 3, 0, 76, 0, 465), none, none, some (.invokevirtual 69, 3, 0, 130, 0, 445), none, none, some (.ireturn, 1, 0, 0, 0, 0)]
def xk_100 : List (Option xQ) := [some (.aload_n 0, 1, 0, 0, 0, 0), some (.getfield 22, 3, 0, 10, 2, 288), none, none, some (.aload_n 0, 1, 0, 0, 0, 0), some (.getfield 12, 3, 0, 10, 0, 286), none, none, some (.invokevirtual 61, 3, 0, 23, 0, 318), none, none, some (.aload_n 0, 1, 0, 0, 0, 0), some (.aload_n 0, 1, 0, 0, 0, 0), some (.getfield 12, 3, 0, 10, 0, 286), none, none, some (.iload_n 1, 1, 0, 0, 0, 0), some (.iload_n 2, 1, 0, 0, 0, 0), some (.invokevirtual 79, 3, 0, 77, 0, 473), none, none, some (.invokevirtual 69, 3, 0, 130, 0, 445), none, none, some (.ireturn, 1, 0, 0, 0, 0)]
def xk_101 : List (Option xQ) := [some (.aload_n 0, 1, 0, 0, 0, 0), some (.getfield 22, 3, 0, 10, 2, 288), none, none, some (.aload_n 0, 1, 0, 0, 0, 0), some (.getfield 12, 3, 0, 10, 0, 286), none, none, some (.invokevirtual 61, 3, 0, 23, 0, 318), none, none, some (.aload_n 0, 1, 0, 0, 0, 0), some (.aload_n 0, 1, 0, 0, 0, 0), some (.getfield 12, 3, 0, 10, 0, 286), none, none, some (.iload_n 1, 1, 0, 0, 0, 0), some (.invokevirtual 83, 3, 0, 79, 0, 490), none, none, some (.invokevirtual 69, 3, 0, 130, 0, 445), none, none, some (.ireturn, 1, 0, 0, 0, 0)]
def xk_102 : List (Option xQ) := [some (.aload_n 0, 1, 0, 0, 0, 0), some (.getfield 22, 3, 0, 10, 2, 288), none, none, some (.aload_n 0, 1, 0, 0, 0, 0), some (.getfield 12, 3, 0, 10, 0, 286), none, none, some (.invokevirtual 61, 3, 0, 23, 0, 318), none, none, some (.aload_n 0, 1, 0, 0, 0, 0), some (.aload_n 0, 1, 0, 0, 0, 0), some (.getfield 12, 3, 0, 10, 0, 286), none, none, some (.invokevirtual 86, 3, 0, 83, 0, 521), none, none, some (.invokevirtual 69, 3, 0, 130, 0, 445), none, none, some (.ireturn, 1, 0, 0, 0, 0)]
def xk_103 : List (Option xQ) := [some (.aload_n 0, 1, 0, 0, 0, 0), some (.getfield 22, 3, 0, 10, 2, 288), none, none, some (.aload_n 0, 1, 0, 0, 0, 0), some (.getfield 12, 3, 0, 10, 0, 286), none, none, some (.invokevirtual 61, 3, 0, 23, 0, 318), none, none, some (.aload_n 0, 1, 0, 0, 0, 0), some (.aload_n 0, 1, 0, 0, 0, 0), some (.getfield 12, 3, 0, 10, 0, 286), none, none, some (.invokevirtual 89, 3, 0, 84, 0, 529), none, none, some (.invokevirtual 69, 3, 0, 130, 0, 445), none, none, some (.ireturn, 1, 0, 0, 0, 0)]
def xk_104 : List (Option xQ) := [some (.aload_n 0, 1, 0, 0, 0, 0), some (.getfield 22, 3, 0, 10, 2, 288), none, none, some (.aload_n 0, 1, 0, 0, 0, 0), some (.getfield 12, 3, 0, 10, 0, 286), none, none, some (.invokevirtual 61, 3, 0, 23, 0, 318), none, none, some (.aload_n 0, 1, 0, 0, 0, 0), some (.aload_n 0, 1, 0, 0, 0, 0), some (.getfield 12, 3, 0, 10, 0, 286), none, none, some (.iload_n 1, 1, 0, 0, 0, 0), some (.invokevirtual 92, 3, 0, 85, 0, 537), none, none, some (.invokevirtual 69, 3, 0, 130, 0, 445), none, none, some (.ireturn, 1, 0, 0, 0, 0)]
def xk_105 : List (Option xQ) := [some (.aload_n 0, 1, 0, 0, 0, 0), some (.getfield 22, 3, 0, 10, 2, 288), none, none, some (.aload_n 0, 1, 0, 0, 0, 0), some (.getfield 12, 3, 0, 10, 0, 286), none, none, some (.invokevirtual 61, 3, 0, 23, 0, 318), none, none, some (.aload_n 0, 1, 0, 0, 0, 0), some (.aload_n 0, 1, 0, 0, 0, 0), some (.getfield 12, 3, 0, 10, 0, 286), none, none, some (.invokevirtual 95, 3, 0, 86, 0, 545), none, none, some (.invokevirtual 69, 3, 0, 130, 0, 445), none, none, some (.ireturn, 1, 0, 0, 0, 0)]
def xk_106 : List (Option xQ) := [some (.aload_n 0, 1, 0, 0, 0, 0), some (.getfield 22, 3, 0, 10, 2, 288), none, none, some (.aload_n 0, 1, 0, 0, 0, 0), some (.getfield 12, 3, 0, 10, 0, 286), none, none, some (.invokevirtual 61, 3, 0, 23, 0, 318), none, none, some (.aload_n 0, 1, 0, 0, 0, 0), some (.aload_n 0, 1, 0, 0, 0, 0), some (.getfield 12, 3, 0, 10, 0, 286), none, none, some (.iload_n 1, 1, 0, 0, 0, 0), some (.iload_n 2, 1, 0, 0, 0, 0), some (.invokevirtual 98, 3, 0, 87, 0, 553), none, none, some (.invokevirtual 69, 3, 0, 130, 0, 445), none, none, some (.ireturn, 1, 0, 0, 0, 0)]
def xk_107 : List (Option xQ) := [some (.aload_n 0, 1, 0, 0, 0, 0), some (.getfield 29, 3, 0, 10, 3, 289), none, none, some (.iload_n 1, 1, 0, 0, 0, 0), some (.invokevirtual 101, 3, 0, 45, 0, 568), none, none, some (.ireturn, 1, 0, 0, 0, 0)]
def xk_108 : List (Option xQ) := [some (.aload_n 0, 1, 0, 0, 0, 0), some (.getfield 29, 3, 0, 10, 3, 289), none, none, some (.invokevirtual 104, 3, 0, 46, 0, 576), none, none, some (.ireturn, 1, 0, 0, 0, 0)]
def xk_109 : List (Option xQ) := [some (.iload_n 1, 1, 0, 0, 0, 0), some (.ifCond .ne 15, 3, 0, 0, 0, 0), none, none, some (.aload_n 0, 1, 0, 0, 0, 0), some (.getfield 29, 3, 0, 10, 3, 289), none, none, some (.aload_n 0, 1, 0, 0, 0, 0), some (.getfield 36, 3, 0, 10, 4, 290), none, none, some (.invokevirtual 107, 3, 0, 51, 0, 584), none, none, some (.ireturn, 1, 0, 0, 0, 0), some (.iload_n 1, 1, 0, 0, 0, 0), some (.iconst 1, 1, 0, 0, 0, 0), some (.if_icmp .ne 17, 3, 0, 0, 0, 0), none, none, some (.aload_n 0, 1, 0, 0, 0, 0), some (.getfield 29, 3, 0, 10, 3, 289), none, none, some (.aload_n 0, 1, 0, 0, 0, 0), some (.getfield 43, 3, 0, 10, 5, 291), none, none, some (.invokevirtual 107, 3, 0, 51, 0, 584), none, none, some (.goto 4, 3, 0, 0, 0, 0), none, none, some (.iconst (-1), 1, 0, 0, 0, 0), some (.ireturn, 1, 0, 0, 0, 0)]
def xk_110 : List (Option xQ) := [some (.aload_n 0, 1, 0, 0, 0, 0), some (.getfield 29, 3, 0, 10, 3, 289), none, none, some (.aload_n 0, 1, 0, 0, 0, 0), some (.getfield 36, 3, 0, 10, 4, 290), none, none, some (.invokevirtual 107, 3, 0, 51, 0, 584), none, none, some (.bipush (-4), 2, 0, 0, 0, 0), none, some (.if_icmp .eq 6, 3, 0, 0, 0, 0), none, none, some (.bipush (-2), 2, 0, 0, 0, 0), none, some (.ireturn, 1, 0, 0, 0, 0), some (.aload_n 0, 1, 0, 0, 0, 0), some (.getfield 22, 3, 0, 10, 2, 288), none, none, some (.aload_n 0, 1, 0, 0, 0, 0), some (.getfield 12, 3, 0, 10, 0, 286), none, none, some (.invokevirtual 61, 3, 0, 23, 0, 318), none, none, some (.aload_n 0, 1, 0, 0, 0, 0), some (.getfield 22, 3, 0, 10, 2, 288), none, none, some (.invokevirtual 111, 3, 0, 24, 0, 449), none, none, some (.aload_n 0, 1, 0, 0, 0, 0), some (.getfield 50, 3, 0, 10, 6, 292), none, none, some (.invokevirtual 114, 3, 0, 17, 0, 624), none, none, some (.iconst 0, 1, 0, 0, 0, 0), some (.istore_n 1, 1, 0, 0, 0, 0), some (.iconst 0, 1, 0, 0, 0, 0), some (.istore_n 2, 1, 0, 0, 0, 0), some (.iload_n 2, 1, 0, 0, 0, 0), some (.aload_n 0, 1, 0, 0, 0, 0), some (.getfield 29, 3, 0, 10, 3, 289), none, none, some (.invokevirtual 117, 3, 0, 44, 0, 628), none, none, some (.if_icmp .ge 59, 3, 0, 0, 0, 0), none, none, some (.aload_n 0, 1, 0, 0, 0, 0), some (.getfield 50, 3, 0, 10, 6, 292), none, none, some (.invokevirtual 120, 3, 0, 16, 0, 632), none, none, some (.ifCond .ne 49, 3, 0, 0, 0, 0), none, none, some (.aload_n 0, 1, 0, 0, 0, 0), some (.getfield 29, 3, 0, 10, 3, 289), none, none, some (.iload_n 2, 1, 0, 0, 0, 0), some (.invokevirtual 124, 3, 0, 48, 0, 636), none, none, some (.ifCond .ne 6, 3, 0, 0, 0, 0), none, none, some (.goto 29, 3, 0, 0, 0, 0), none, none, some (.aload_n 0, 1, 0, 0, 0, 0), some (.iload_n 2, 1, 0, 0, 0, 0), some (.invokevirtual 128, 3, 0, 131, 0, 640), none, none, some (.istore_n 3, 1, 0, 0, 0, 0), some (.iload_n 3, 1, 0, 0, 0, 0), some (.ifCond .ge 16, 3, 0, 0, 0, 0), none, none, some (.aload_n 0, 1, 0, 0, 0, 0), some (.getfield 50, 3, 0, 10, 6, 292), none, none, some (.iload_n 3, 1, 0, 0, 0, 0), some (.iload_n 1, 1, 0, 0, 0, 0), some (.iload_n 2, 1, 0, 0, 0, 0), some (.invokevirtual 131, 3, 0, 18, 0, 655), none, none, some (.goto 6, 3, 0, 0, 0, 0), none, none, some (.iinc 1 1, 3, 0, 0, 0, 0), none, none, some (.iinc 2 1, 3, 0, 0, 0, 0), none, none, some (.goto (-64), 3, 0, 0, 0, 0), none, none, some (.aload_n 0, 1, 0, 0, 0, 0), some (.getfield 29, 3, 0, 10, 3, 289), none, none, some (.invokevirtual 104, 3, 0, 46, 0, 576), none, none, some (.pop, 1, 0, 0, 0, 0), some (.iload_n 1, 1, 0, 0, 0, 0), some (.ireturn, 1, 0, 0, 0, 0)]
def xk_111 : List (Option xQ) := [some (.aload_n 0, 1, 0, 0, 0, 0), some (.getfield 50, 3, 0, 10, 6, 292), none, none, some (.iload_n 1, 1, 0, 0, 0, 0), some (.invokevirtual 134, 3, 0, 19, 0, 663), none, none, some (.ireturn, 1, 0, 0, 0, 0)]
def xk_112 : List (Option xQ) := [some (.aload_n 0, 1, 0, 0, 0, 0), some (.getfield 12, 3, 0, 10, 0, 286), none, none, some (.iload_n 1, 1, 0, 0, 0, 0), some (.invokevirtual 137, 3, 0, 58, 0, 671), none, none, some (.astore_n 3, 1, 0, 0, 0, 0), some (.aload_n 3, 1, 0, 0, 0, 0), some (.ifnonnull 5, 3, 0, 0, 0, 0), none, none, some (.iconst (-1), 1, 0, 0, 0, 0), some (.ireturn, 1, 0, 0, 0, 0), some (.iload_n 2, 1, 0, 0, 0, 0), some (.tableswitch 91 0 5 #[40, 48, 56, 64, 73, 86], 40, 0, 0, 0, 0), none, none, none, none, none, none, none, none, none, none, none, none, none, none, none, none, none, none, none, none, none, none, none, none, none, none, none, none, none, none, none, none, none, none, none, none, none, none, none, some (.aload_n 3, 1, 0, 0, 0, 0), some (.getfield 141, 3, 1, 3, 0, 140), none, none, some (.invokevirtual 147, 3, 0, 29, 0, 672), none, none, some (.ireturn, 1, 0, 0, 0, 0), some (.aload_n 3, 1, 0, 0, 0, 0), some (.getfield 141, 3, 1, 3, 0, 140), none, none, some (.invokevirtual 152, 3, 0, 36, 0, 673), none, none, some (.ireturn, 1, 0, 0, 0, 0), some (.aload_n 3, 1, 0, 0, 0, 0), some (.getfield 141, 3, 1, 3, 0, 140), none, none, some (.invokevirtual 155, 3, 0, 37, 0, 677), none, none, some (.ireturn, 1, 0, 0, 0, 0), some (.aload_n 3, 1, 0, 0, 0, 0), some (.getfield 141, 3, 1, 3, 0, 140), none, none, some (.iconst 0, 1, 0, 0, 0, 0), some (.invokevirtual 158, 3, 0, 38, 0, 681), none, none, some (.ireturn, 1, 0, 0, 0, 0), some (.aload_n 3, 1, 0, 0, 0, 0), some (.getfield 161, 3, 1, 3, 1, 143), none, none, some (.ifCond .eq 7, 3, 0, 0, 0, 0), none, none, some (.iconst 1, 1, 0, 0, 0, 0), some (.goto 4, 3, 0, 0, 0, 0), none, none, some (.iconst 0, 1, 0, 0, 0, 0), some (.ireturn, 1, 0, 0, 0, 0), some (.aload_n 3, 1, 0, 0, 0, 0), some (.getfield 165, 3, 1, 3, 2, 145), none, none, some (.ireturn, 1, 0, 0, 0, 0), some (.iconst (-1), 1, 0, 0, 0, 0), some (.ireturn, 1, 0, 0, 0, 0)]
def xk_113 : List (Option xQ) := [some (.aload_n 0, 1, 0, 0, 0, 0), some (.getfield 12, 3, 0, 10, 0, 286), none, none, some (.iload_n 1, 1, 0, 0, 0, 0), some (.invokevirtual 137, 3, 0, 58, 0, 671), none, none, some (.astore 4, 2, 0, 0, 0, 0), none, some (.aload 4, 2, 0, 0, 0, 0), none, some (.ifnull 26, 3, 0, 0, 0, 0), none, none, some (.iload_n 3, 1, 0, 0, 0, 0), some (.invokestatic 169, 3, 0, 132, 0, 690), none, none, some (.ifCond .eq 19, 3, 0, 0, 0, 0), none, none, some (.iload_n 2, 1, 0, 0, 0, 0), some (.ifCond .lt 15, 3, 0, 0, 0, 0), none, none, some (.iload_n 2, 1, 0, 0, 0, 0), some (.aload 4, 2, 0, 0, 0, 0), none, some (.getfield 141, 3, 1, 3, 0, 140), none, none, some (.invokevirtual 147, 3, 0, 29, 0, 672), none, none, some (.if_icmp .lt 5, 3, 0, 0, 0, 0), none, none, some (.iconst (-1), 1, 0, 0, 0, 0), some (.ireturn, 1, 0, 0, 0, 0), some (.aload 4, 2, 0, 0, 0, 0), none, some (.getfield 141, 3, 1, 3, 0, 140), none, none, some (.iload_n 2, 1, 0, 0, 0, 0), some (.iload_n 3, 1, 0, 0, 0, 0), some (.invokevirtual 172, 3, 0, 30, 0, 691), none, none, some (.ireturn, 1, 0, 0, 0, 0)]
def xk_114 : List (Option xQ) := [some (.aload_n 0, 1, 0, 0, 0, 0), some (.getfield 12, 3, 0, 10, 0, 286), none, none, some (.iload_n 1, 1, 0, 0, 0, 0), some (.invokevirtual 175, 3, 0, 64, 0, 696), none, none, some (.ifCond .eq 10, 3, 0, 0, 0, 0), none, none, some (.iload_n 2, 1, 0, 0, 0, 0), some (.invokestatic 169, 3, 0, 132, 0, 690), none, none, some (.ifCond .ne 5, 3, 0, 0, 0, 0), none, none, some (.iconst (-1), 1, 0, 0, 0, 0), some (.ireturn, 1, 0, 0, 0, 0), some (.aload_n 0, 1, 0, 0, 0, 0), some (.getfield 57, 3, 0, 10, 7, 293), none, none, some (.aload_n 0, 1, 0, 0, 0, 0), some (.getfield 12, 3, 0, 10, 0, 286), none, none, some (.aload_n 0, 1, 0, 0, 0, 0), some (.getfield 12, 3, 0, 10, 0, 286), none, none, some (.getfield 178, 3, 1, 7, 5, 164), none, none, some (.iload_n 1, 1, 0, 0, 0, 0), some (.invokevirtual 181, 3, 0, 1, 0, 700), none, none, some (.aload_n 0, 1, 0, 0, 0, 0), some (.getfield 57, 3, 0, 10, 7, 293), none, none, some (.iload_n 2, 1, 0, 0, 0, 0), some (.invokevirtual 185, 3, 0, 2, 0, 712), none, none, some (.ireturn, 1, 0, 0, 0, 0)]
def xk_115 : List (Option xQ) := [some (.aload_n 0, 1, 0, 0, 0, 0), some (.getfield 12, 3, 0, 10, 0, 286), none, none, some (.iload_n 1, 1, 0, 0, 0, 0), some (.invokevirtual 175, 3, 0, 64, 0, 696), none, none, some (.ifCond .ne 5, 3, 0, 0, 0, 0), none, none, some (.iconst (-1), 1, 0, 0, 0, 0), some (.ireturn, 1, 0, 0, 0, 0), some (.aload_n 0, 1, 0, 0, 0, 0), some (.getfield 57, 3, 0, 10, 7, 293), none, none, some (.aload_n 0, 1, 0, 0, 0, 0), some (.getfield 12, 3, 0, 10, 0, 286), none, none, some (.aload_n 0, 1, 0, 0, 0, 0), some (.getfield 12, 3, 0, 10, 0, 286), none, none, some (.getfield 178, 3, 1, 7, 5, 164), none, none, some (.iload_n 1, 1, 0, 0, 0, 0), some (.invokevirtual 181, 3, 0, 1, 0, 700), none, none, some (.iload_n 2, 1, 0, 0, 0, 0), some (.tableswitch 75 0 4 #[35, 43, 51, 59, 67], 35, 0, 0, 0, 0), none, none, none, none, none, none, none, none, none, none, none, none, none, none, none, none, none, none, none, none, none, none, none, none, none, none, none, none, none, none, none, none, none, none, some (.aload_n 0, 1, 0, 0, 0, 0), some (.getfield 57, 3, 0, 10, 7, 293), none, none, some (.invokevirtual 188, 3, 0, 3, 0, 720), none, none, some (.ireturn, 1, 0, 0, 0, 0), some (.aload_n 0, 1, 0, 0, 0, 0), some (.getfield 57, 3, 0, 10, 7, 293), none, none, some (.invokevirtual 191, 3, 0, 4, 0, 724), none, none, some (.ireturn, 1, 0, 0, 0, 0), some (.aload_n 0, 1, 0, 0, 0, 0), some (.getfield 57, 3, 0, 10, 7, 293), none, none, some (.invokevirtual 192, 3, 0, 5, 0, 728), none, none, some (.ireturn, 1, 0, 0, 0, 0), some (.aload_n 0, 1, 0, 0, 0, 0), some (.getfield 57, 3, 0, 10, 7, 293), none, none, some (.invokevirtual 195, 3, 0, 6, 0, 733), none, none, some (.ireturn, 1, 0, 0, 0, 0), some (.aload_n 0, 1, 0, 0, 0, 0), some (.getfield 57, 3, 0, 10, 7, 293), none, none, some (.invokevirtual 198, 3, 0, 7, 0, 737), none, none, some (.ireturn, 1, 0, 0, 0, 0), some (.iconst (-1), 1, 0, 0, 0, 0), some (.ireturn, 1, 0, 0, 0, 0)]
def xk_116 : List (Option xQ) := [some (.aload_n 0, 1, 0, 0, 0, 0), some (.getfield 12, 3, 0, 10, 0, 286), none, none, some (.getfield 178, 3, 1, 7, 5, 164), none, none, some (.ifCond .ne 8, 3, 0, 0, 0, 0), none, none, some (.bipush (-2), 2, 0, 0, 0, 0), none, some (.goto 14, 3, 0, 0, 0, 0), none, none, some (.aload_n 0, 1, 0, 0, 0, 0), some (.getfield 57, 3, 0, 10, 7, 293), none, none, some (.aload_n 0, 1, 0, 0, 0, 0), some (.getfield 12, 3, 0, 10, 0, 286), none, none, some (.invokevirtual 201, 3, 0, 10, 0, 745), none, none, some (.ireturn, 1, 0, 0, 0, 0)]
def xk_117 : List (Option xQ) := [some (.aload_n 0, 1, 0, 0, 0, 0), some (.getfield 57, 3, 0, 10, 7, 293), none, none, some (.aload_n 0, 1, 0, 0, 0, 0), some (.getfield 12, 3, 0, 10, 0, 286), none, none, some (.invokevirtual 205, 3, 0, 11, 0, 756), none, none, some (.ireturn, 1, 0, 0, 0, 0)]
def xk_118 : List (Option xQ) := [some (.aload_n 0, 1, 0, 0, 0, 0), some (.getfield 12, 3, 0, 10, 0, 286), none, none, some (.getfield 178, 3, 1, 7, 5, 164), none, none, some (.ifCond .eq 19, 3, 0, 0, 0, 0), none, none, some (.aload_n 0, 1, 0, 0, 0, 0), some (.getfield 29, 3, 0, 10, 3, 289), none, none, some (.aload_n 0, 1, 0, 0, 0, 0), some (.getfield 43, 3, 0, 10, 5, 291), none, none, some (.invokevirtual 107, 3, 0, 51, 0, 584), none, none, some (.bipush (-4), 2, 0, 0, 0, 0), none, some (.if_icmp .eq 6, 3, 0, 0, 0, 0), none, none, some (.bipush (-2), 2, 0, 0, 0, 0), none, some (.ireturn, 1, 0, 0, 0, 0), some (.aload_n 0, 1, 0, 0, 0, 0), some (.getfield 57, 3, 0, 10, 7, 293), none, none, some (.aload_n 0, 1, 0, 0, 0, 0), some (.getfield 12, 3, 0, 10, 0, 286), none, none, some (.aload_n 0, 1, 0, 0, 0, 0), some (.getfield 29, 3, 0, 10, 3, 289), none, none, some (.invokevirtual 208, 3, 0, 13, 0, 768), none, none, some (.ireturn, 1, 0, 0, 0, 0)]
def xk_119 : List (Option xQ) := [some (.iload_n 1, 1, 0, 0, 0, 0), some (.tableswitch 276 0 15 #[79, 87, 102, 110, 118, 126, 148, 156, 181, 209, 225, 234, 243, 252, 260, 268], 79, 0, 0, 0, 0), none, none, none, none, none, none, none, none, none, none, none, none, none, none, none, none, none, none, none, none, none, none, none, none, none, none, none, none, none, none, none, none, none, none, none, none, none, none, none, none, none, none, none, none, none, none, none, none, none, none, none, none, none, none, none, none, none, none, none, none, none, none, none, none, none, none, none, none, none, none, none, none, none, none, none, none, none, none, some (.aload_n 0, 1, 0, 0, 0, 0), some (.getfield 12, 3, 0, 10, 0, 286), none, none, some (.getfield 212, 3, 1, 7, 4, 161), none, none, some (.ireturn, 1, 0, 0, 0, 0), some (.aload_n 0, 1, 0, 0, 0, 0), some (.getfield 12, 3, 0, 10, 0, 286), none, none, some (.aload_n 0, 1, 0, 0, 0, 0), some (.getfield 12, 3, 0, 10, 0, 286), none, none, some (.getfield 178, 3, 1, 7, 5, 164), none, none, some (.invokevirtual 215, 3, 0, 62, 0, 787), none, none, some (.ireturn, 1, 0, 0, 0, 0), some (.aload_n 0, 1, 0, 0, 0, 0), some (.getfield 12, 3, 0, 10, 0, 286), none, none, some (.invokevirtual 218, 3, 0, 63, 0, 788), none, none, some (.ireturn, 1, 0, 0, 0, 0), some (.aload_n 0, 1, 0, 0, 0, 0), some (.getfield 12, 3, 0, 10, 0, 286), none, none, some (.getfield 178, 3, 1, 7, 5, 164), none, none, some (.ireturn, 1, 0, 0, 0, 0), some (.aload_n 0, 1, 0, 0, 0, 0), some (.getfield 12, 3, 0, 10, 0, 286), none, none, some (.getfield 221, 3, 1, 7, 6, 166), none, none, some (.ireturn, 1, 0, 0, 0, 0), some (.aload_n 0, 1, 0, 0, 0, 0), some (.getfield 12, 3, 0, 10, 0, 286), none, none, some (.invokevirtual 224, 3, 0, 61, 0, 789), none, none, some (.ifCond .eq 13, 3, 0, 0, 0, 0), none, none, some (.aload_n 0, 1, 0, 0, 0, 0), some (.getfield 12, 3, 0, 10, 0, 286), none, none, some (.getfield 227, 3, 1, 7, 7, 168), none, none, some (.goto 4, 3, 0, 0, 0, 0), none, none, some (.iconst 0, 1, 0, 0, 0, 0), some (.ireturn, 1, 0, 0, 0, 0), some (.aload_n 0, 1, 0, 0, 0, 0), some (.getfield 12, 3, 0, 10, 0, 286), none, none, some (.getfield 230, 3, 1, 7, 8, 170), none, none, some (.ireturn, 1, 0, 0, 0, 0), some (.aload_n 0, 1, 0, 0, 0, 0), some (.getfield 12, 3, 0, 10, 0, 286), none, none, some (.invokevirtual 231, 3, 0, 60, 0, 790), none, none, some (.ifCond .eq 16, 3, 0, 0, 0, 0), none, none, some (.aload_n 0, 1, 0, 0, 0, 0), some (.getfield 12, 3, 0, 10, 0, 286), none, none, some (.getfield 234, 3, 1, 7, 2, 157), none, none, some (.getfield 238, 3, 1, 8, 1, 120), none, none, some (.goto 4, 3, 0, 0, 0, 0), none, none, some (.iconst 0, 1, 0, 0, 0, 0), some (.ireturn, 1, 0, 0, 0, 0), some (.aload_n 0, 1, 0, 0, 0, 0), some (.getfield 12, 3, 0, 10, 0, 286), none, none, some (.invokevirtual 231, 3, 0, 60, 0, 790), none, none, some (.ifCond .eq 19, 3, 0, 0, 0, 0), none, none, some (.aload_n 0, 1, 0, 0, 0, 0), some (.getfield 12, 3, 0, 10, 0, 286), none, none, some (.getfield 234, 3, 1, 7, 2, 157), none, none, some (.getfield 243, 3, 1, 8, 0, 117), none, none, some (.invokevirtual 152, 3, 0, 36, 0, 673), none, none, some (.goto 4, 3, 0, 0, 0, 0), none, none, some (.iconst 0, 1, 0, 0, 0, 0), some (.ireturn, 1, 0, 0, 0, 0), some (.aload_n 0, 1, 0, 0, 0, 0), some (.getfield 12, 3, 0, 10, 0, 286), none, none, some (.getfield 244, 3, 1, 7, 3, 159), none, none, some (.ifCond .eq 7, 3, 0, 0, 0, 0), none, none, some (.iconst 1, 1, 0, 0, 0, 0), some (.goto 4, 3, 0, 0, 0, 0), none, none, some (.iconst 0, 1, 0, 0, 0, 0), some (.ireturn, 1, 0, 0, 0, 0), some (.aload_n 0, 1, 0, 0, 0, 0), some (.getfield 12, 3, 0, 10, 0, 286), none, none, some (.iconst 0, 1, 0, 0, 0, 0), some (.invokevirtual 247, 3, 0, 59, 0, 791), none, none, some (.ireturn, 1, 0, 0, 0, 0), some (.aload_n 0, 1, 0, 0, 0, 0), some (.getfield 12, 3, 0, 10, 0, 286), none, none, some (.iconst 1, 1, 0, 0, 0, 0), some (.invokevirtual 247, 3, 0, 59, 0, 791), none, none, some (.ireturn, 1, 0, 0, 0, 0), some (.aload_n 0, 1, 0, 0, 0, 0), some (.getfield 12, 3, 0, 10, 0, 286), none, none, some (.iconst 2, 1, 0, 0, 0, 0), some (.invokevirtual 247, 3, 0, 59, 0, 791), none, none, some (.ireturn, 1, 0, 0, 0, 0), some (.aload_n 0, 1, 0, 0, 0, 0), some (.getfield 29, 3, 0, 10, 3, 289), none, none, some (.invokevirtual 117, 3, 0, 44, 0, 628), none, none, some (.ireturn, 1, 0, 0, 0, 0), some (.aload_n 0, 1, 0, 0, 0, 0), some (.getfield 22, 3, 0, 10, 2, 288), none, none, some (.invokevirtual 250, 3, 0, 21, 0, 792), none, none, some (.ireturn, 1, 0, 0, 0, 0), some (.aload_n 0, 1, 0, 0, 0, 0), some (.getfield 12, 3, 0, 10, 0, 286), none, none, some (.getfield 251, 3, 1, 7, 10, 174), none, none, some (.ireturn, 1, 0, 0, 0, 0), some (.iconst (-1), 1, 0, 0, 0, 0), some (.ireturn, 1, 0, 0, 0, 0)]
def xk_120 : List (Option xQ) := [some (.aload_n 0, 1, 0, 0, 0, 0), some (.getfield 12, 3, 0, 10, 0, 286), none, none, some (.aload_n 0, 1, 0, 0, 0, 0), some (.getfield 12, 3, 0, 10, 0, 286), none, none, some (.getfield 178, 3, 1, 7, 5, 164), none, none, some (.invokevirtual 215, 3, 0, 62, 0, 787), none, none, some (.istore_n 1, 1, 0, 0, 0, 0), some (.iload_n 1, 1, 0, 0, 0, 0), some (.ifCond .gt 5, 3, 0, 0, 0, 0), none, none, some (.dconst 0, 1, 0, 0, 0, 0), some (.dreturn, 1, 0, 0, 0, 0), some (.aload_n 0, 1, 0, 0, 0, 0), some (.getfield 57, 3, 0, 10, 7, 293), none, none, some (.aload_n 0, 1, 0, 0, 0, 0), some (.getfield 12, 3, 0, 10, 0, 286), none, none, some (.aload_n 0, 1, 0, 0, 0, 0), some (.getfield 12, 3, 0, 10, 0, 286), none, none, some (.getfield 178, 3, 1, 7, 5, 164), none, none, some (.invokevirtual 254, 3, 0, 8, 0, 800), none, none, some (.i2d, 1, 0, 0, 0, 0), some (.iload_n 1, 1, 0, 0, 0, 0), some (.i2d, 1, 0, 0, 0, 0), some (.ddiv, 1, 0, 0, 0, 0), some (.dreturn, 1, 0, 0, 0, 0)]
def xk_121 : List (Option xQ) := [some (.aload_n 0, 1, 0, 0, 0, 0), some (.getfield 12, 3, 0, 10, 0, 286), none, none, some (.invokevirtual 224, 3, 0, 61, 0, 789), none, none, some (.ifCond .ne 6, 3, 0, 0, 0, 0), none, none, some (.bipush (-2), 2, 0, 0, 0, 0), none, some (.ireturn, 1, 0, 0, 0, 0), some (.aload_n 0, 1, 0, 0, 0, 0), some (.getfield 12, 3, 0, 10, 0, 286), none, none, some (.getfield 258, 3, 1, 7, 9, 172), none, none, some (.iconst 2, 1, 0, 0, 0, 0), some (.aload_n 0, 1, 0, 0, 0, 0), some (.getfield 12, 3, 0, 10, 0, 286), none, none, some (.iconst 0, 1, 0, 0, 0, 0), some (.invokevirtual 247, 3, 0, 59, 0, 791), none, none, some (.imul, 1, 0, 0, 0, 0), some (.invokestatic 261, 3, 0, 135, 0, 808), none, none, some (.ireturn, 1, 0, 0, 0, 0)]
def xk_122 : List (Option xQ) := [some (.iload_n 1, 1, 0, 0, 0, 0), some (.ifCond .lt 9, 3, 0, 0, 0, 0), none, none, some (.iload_n 1, 1, 0, 0, 0, 0), some (.bipush 99, 2, 0, 0, 0, 0), none, some (.if_icmp .le 5, 3, 0, 0, 0, 0), none, none, some (.iconst (-1), 1, 0, 0, 0, 0), some (.ireturn, 1, 0, 0, 0, 0), some (.aload_n 0, 1, 0, 0, 0, 0), some (.getfield 12, 3, 0, 10, 0, 286), none, none, some (.aload_n 0, 1, 0, 0, 0, 0), some (.getfield 12, 3, 0, 10, 0, 286), none, none, some (.getfield 178, 3, 1, 7, 5, 164), none, none, some (.invokevirtual 215, 3, 0, 62, 0, 787), none, none, some (.istore_n 2, 1, 0, 0, 0, 0), some (.iload_n 2, 1, 0, 0, 0, 0), some (.ifCond .ne 6, 3, 0, 0, 0, 0), none, none, some (.bipush (-2), 2, 0, 0, 0, 0), none, some (.ireturn, 1, 0, 0, 0, 0), some (.iload_n 1, 1, 0, 0, 0, 0), some (.iload_n 2, 1, 0, 0, 0, 0), some (.imul, 1, 0, 0, 0, 0), some (.aload_n 0, 1, 0, 0, 0, 0), some (.getfield 12, 3, 0, 10, 0, 286), none, none, some (.iconst 0, 1, 0, 0, 0, 0), some (.invokevirtual 247, 3, 0, 59, 0, 791), none, none, some (.invokestatic 261, 3, 0, 135, 0, 808), none, none, some (.istore_n 3, 1, 0, 0, 0, 0), some (.iload_n 3, 1, 0, 0, 0, 0), some (.iload_n 2, 1, 0, 0, 0, 0), some (.if_icmp .ge 7, 3, 0, 0, 0, 0), none, none, some (.iload_n 3, 1, 0, 0, 0, 0), some (.goto 5, 3, 0, 0, 0, 0), none, none, some (.bipush (-4), 2, 0, 0, 0, 0), none, some (.ireturn, 1, 0, 0, 0, 0)]
def xk_123 : List (Option xQ) := [some (.aload_n 0, 1, 0, 0, 0, 0), some (.getfield 12, 3, 0, 10, 0, 286), none, none, some (.aload_n 0, 1, 0, 0, 0, 0), some (.getfield 12, 3, 0, 10, 0, 286), none, none, some (.getfield 178, 3, 1, 7, 5, 164), none, none, some (.invokevirtual 215, 3, 0, 62, 0, 787), none, none, some (.istore_n 1, 1, 0, 0, 0, 0), some (.iload_n 1, 1, 0, 0, 0, 0), some (.ifCond .ne 6, 3, 0, 0, 0, 0), none, none, some (.bipush (-2), 2, 0, 0, 0, 0), none, some (.ireturn, 1, 0, 0, 0, 0), some (.aload_n 0, 1, 0, 0, 0, 0), some (.getfield 12, 3, 0, 10, 0, 286), none, none, some (.iconst 0, 1, 0, 0, 0, 0), some (.invokevirtual 247, 3, 0, 59, 0, 791), none, none, some (.istore_n 2, 1, 0, 0, 0, 0), some (.iconst 1, 1, 0, 0, 0, 0), some (.istore_n 3, 1, 0, 0, 0, 0), some (.iload_n 3, 1, 0, 0, 0, 0), some (.iload_n 2, 1, 0, 0, 0, 0), some (.if_icmp .ge 19, 3, 0, 0, 0, 0), none, none, some (.iload_n 3, 1, 0, 0, 0, 0), some (.iload_n 1, 1, 0, 0, 0, 0), some (.imul, 1, 0, 0, 0, 0), some (.iload_n 2, 1, 0, 0, 0, 0), some (.invokestatic 264, 3, 0, 134, 0, 811), none, none, some (.ifCond .eq 9, 3, 0, 0, 0, 0), none, none, some (.iinc 3 1, 3, 0, 0, 0, 0), none, none, some (.goto (-18), 3, 0, 0, 0, 0), none, none, some (.iload_n 3, 1, 0, 0, 0, 0), some (.ireturn, 1, 0, 0, 0, 0)]
def xk_124 : List (Option xQ) := [some (.iload_n 1, 1, 0, 0, 0, 0), some (.iconst 1, 1, 0, 0, 0, 0), some (.if_icmp .lt 9, 3, 0, 0, 0, 0), none, none, some (.iload_n 1, 1, 0, 0, 0, 0), some (.bipush 24, 2, 0, 0, 0, 0), none, some (.if_icmp .le 5, 3, 0, 0, 0, 0), none, none, some (.iconst (-1), 1, 0, 0, 0, 0), some (.ireturn, 1, 0, 0, 0, 0), some (.aload_n 0, 1, 0, 0, 0, 0), some (.getfield 12, 3, 0, 10, 0, 286), none, none, some (.iload_n 1, 1, 0, 0, 0, 0), some (.invokevirtual 267, 3, 0, 68, 0, 824), none, none, some (.ireturn, 1, 0, 0, 0, 0)]
def xk_125 : List (Option xQ) := [some (.aload_n 0, 1, 0, 0, 0, 0), some (.getfield 12, 3, 0, 10, 0, 286), none, none, some (.getfield 178, 3, 1, 7, 5, 164), none, none, some (.ifCond .ne 6, 3, 0, 0, 0, 0), none, none, some (.bipush (-2), 2, 0, 0, 0, 0), none, some (.ireturn, 1, 0, 0, 0, 0), some (.aload_n 0, 1, 0, 0, 0, 0), some (.getfield 12, 3, 0, 10, 0, 286), none, none, some (.invokevirtual 270, 3, 0, 67, 0, 829), none, none, some (.istore_n 1, 1, 0, 0, 0, 0), some (.iconst 0, 1, 0, 0, 0, 0), some (.istore_n 2, 1, 0, 0, 0, 0), some (.iload_n 2, 1, 0, 0, 0, 0), some (.bipush 99, 2, 0, 0, 0, 0), none, some (.if_icmp .gt 28, 3, 0, 0, 0, 0), none, none, some (.iload_n 1, 1, 0, 0, 0, 0), some (.ifCond .ne 5, 3, 0, 0, 0, 0), none, none, some (.iload_n 2, 1, 0, 0, 0, 0), some (.ireturn, 1, 0, 0, 0, 0), some (.iload_n 1, 1, 0, 0, 0, 0), some (.aload_n 0, 1, 0, 0, 0, 0), some (.getfield 12, 3, 0, 10, 0, 286), none, none, some (.iconst 2, 1, 0, 0, 0, 0), some (.invokevirtual 247, 3, 0, 59, 0, 791), none, none, some (.invokestatic 273, 3, 0, 136, 0, 835), none, none, some (.istore_n 1, 1, 0, 0, 0, 0), some (.iinc 2 1, 3, 0, 0, 0, 0), none, none, some (.goto (-28), 3, 0, 0, 0, 0), none, none, some (.bipush (-4), 2, 0, 0, 0, 0), none, some (.ireturn, 1, 0, 0, 0, 0)]
def xk_126 : List (Option xQ) := [some (.iload_n 1, 1, 0, 0, 0, 0), some (.iconst 1, 1, 0, 0, 0, 0), some (.if_icmp .lt 14, 3, 0, 0, 0, 0), none, none, some (.iload_n 1, 1, 0, 0, 0, 0), some (.aload_n 0, 1, 0, 0, 0, 0), some (.getfield 12, 3, 0, 10, 0, 286), none, none, some (.getfield 178, 3, 1, 7, 5, 164), none, none, some (.if_icmp .le 5, 3, 0, 0, 0, 0), none, none, some (.iconst (-1), 1, 0, 0, 0, 0), some (.ireturn, 1, 0, 0, 0, 0), some (.iload_n 2, 1, 0, 0, 0, 0), some (.tableswitch 60 0 2 #[25, 34, 47], 25, 0, 0, 0, 0), none, none, none, none, none, none, none, none, none, none, none, none, none, none, none, none, none, none, none, none, none, none, none, none, some (.aload_n 0, 1, 0, 0, 0, 0), some (.getfield 12, 3, 0, 10, 0, 286), none, none, some (.iload_n 1, 1, 0, 0, 0, 0), some (.invokevirtual 215, 3, 0, 62, 0, 787), none, none, some (.ireturn, 1, 0, 0, 0, 0), some (.aload_n 0, 1, 0, 0, 0, 0), some (.getfield 57, 3, 0, 10, 7, 293), none, none, some (.aload_n 0, 1, 0, 0, 0, 0), some (.getfield 12, 3, 0, 10, 0, 286), none, none, some (.iload_n 1, 1, 0, 0, 0, 0), some (.invokevirtual 254, 3, 0, 8, 0, 800), none, none, some (.ireturn, 1, 0, 0, 0, 0), some (.aload_n 0, 1, 0, 0, 0, 0), some (.getfield 57, 3, 0, 10, 7, 293), none, none, some (.aload_n 0, 1, 0, 0, 0, 0), some (.getfield 12, 3, 0, 10, 0, 286), none, none, some (.iload_n 1, 1, 0, 0, 0, 0), some (.invokevirtual 276, 3, 0, 9, 0, 840), none, none, some (.ireturn, 1, 0, 0, 0, 0), some (.iconst (-1), 1, 0, 0, 0, 0), some (.ireturn, 1, 0, 0, 0, 0)]
def xk_127 : List (Option xQ) := [some (.aload_n 0, 1, 0, 0, 0, 0), some (.getfield 22, 3, 0, 10, 2, 288), none, none, some (.invokevirtual 279, 3, 0, 25, 0, 848), none, none, some (.astore_n 1, 1, 0, 0, 0, 0), some (.aload_n 1, 1, 0, 0, 0, 0), some (.ifnonnull 6, 3, 0, 0, 0, 0), none, none, some (.bipush (-2), 2, 0, 0, 0, 0), none, some (.ireturn, 1, 0, 0, 0, 0), some (.aload_n 0, 1, 0, 0, 0, 0), some (.getfield 12, 3, 0, 10, 0, 286), none, none, some (.aload_n 1, 1, 0, 0, 0, 0), some (.invokevirtual 283, 3, 0, 55, 0, 852), none, none, some (.aload_n 0, 1, 0, 0, 0, 0), some (.getfield 22, 3, 0, 10, 2, 288), none, none, some (.invokevirtual 250, 3, 0, 21, 0, 792), none, none, some (.ireturn, 1, 0, 0, 0, 0)]
def xk_128 : List (Option xQ) := [some (.aload_n 0, 1, 0, 0, 0, 0), some (.getfield 16, 3, 0, 10, 1, 287), none, none, some (.aload_n 0, 1, 0, 0, 0, 0), some (.getfield 12, 3, 0, 10, 0, 286), none, none, some (.invokevirtual 283, 3, 0, 55, 0, 852), none, none, some (.aload_n 0, 1, 0, 0, 0, 0), some (.iconst 1, 1, 0, 0, 0, 0), some (.putfield 286, 3, 0, 10, 8, 294), none, none, some (.aload_n 0, 1, 0, 0, 0, 0), some (.getfield 12, 3, 0, 10, 0, 286), none, none, some (.getfield 212, 3, 1, 7, 4, 161), none, none, some (.ireturn, 1, 0, 0, 0, 0)]
def xk_129 : List (Option xQ) := [some (.aload_n 0, 1, 0, 0, 0, 0), some (.getfield 286, 3, 0, 10, 8, 294), none, none, some (.ifCond .ne 6, 3, 0, 0, 0, 0), none, none, some (.bipush (-2), 2, 0, 0, 0, 0), none, some (.ireturn, 1, 0, 0, 0, 0), some (.aload_n 0, 1, 0, 0, 0, 0), some (.getfield 22, 3, 0, 10, 2, 288), none, none, some (.aload_n 0, 1, 0, 0, 0, 0), some (.getfield 12, 3, 0, 10, 0, 286), none, none, some (.invokevirtual 61, 3, 0, 23, 0, 318), none, none, some (.aload_n 0, 1, 0, 0, 0, 0), some (.getfield 12, 3, 0, 10, 0, 286), none, none, some (.aload_n 0, 1, 0, 0, 0, 0), some (.getfield 16, 3, 0, 10, 1, 287), none, none, some (.invokevirtual 283, 3, 0, 55, 0, 852), none, none, some (.aload_n 0, 1, 0, 0, 0, 0), some (.aload_n 0, 1, 0, 0, 0, 0), some (.getfield 12, 3, 0, 10, 0, 286), none, none, some (.getfield 212, 3, 1, 7, 4, 161), none, none, some (.invokevirtual 69, 3, 0, 130, 0, 445), none, none, some (.ireturn, 1, 0, 0, 0, 0)]
def xk_130 : List (Option xQ) := [some (.iload_n 1, 1, 0, 0, 0, 0), some (.ifCond .lt 10, 3, 0, 0, 0, 0), none, none, some (.aload_n 0, 1, 0, 0, 0, 0), some (.getfield 22, 3, 0, 10, 2, 288), none, none, some (.invokevirtual 111, 3, 0, 24, 0, 449), none, none, some (.iload_n 1, 1, 0, 0, 0, 0), some (.ireturn, 1, 0, 0, 0, 0)]
def xk_131 : List (Option xQ) := [some (.aload_n 0, 1, 0, 0, 0, 0), some (.getfield 29, 3, 0, 10, 3, 289), none, none, some (.iload_n 1, 1, 0, 0, 0, 0), some (.invokevirtual 289, 3, 0, 47, 0, 644), none, none, some (.tableswitch 183 104 121 #[146, 183, 183, 183, 183, 183, 183, 183, 88, 183, 183, 96, 128, 183, 104, 183, 112, 120], 88, 0, 0, 0, 0), none, none, none, none, none, none, none, none, none, none, none, none, none, none, none, none, none, none, none, none, none, none, none, none, none, none, none, none, none, none, none, none, none, none, none, none, none, none, none, none, none, none, none, none, none, none, none, none, none, none, none, none, none, none, none, none, none, none, none, none, none, none, none, none, none, none, none, none, none, none, none, none, none, none, none, none, none, none, none, none, none, none, none, none, none, none, none, some (.aload_n 0, 1, 0, 0, 0, 0), some (.getfield 12, 3, 0, 10, 0, 286), none, none, some (.invokevirtual 65, 3, 0, 69, 0, 369), none, none, some (.ireturn, 1, 0, 0, 0, 0), some (.aload_n 0, 1, 0, 0, 0, 0), some (.getfield 12, 3, 0, 10, 0, 286), none, none, some (.invokevirtual 73, 3, 0, 75, 0, 457), none, none, some (.ireturn, 1, 0, 0, 0, 0), some (.aload_n 0, 1, 0, 0, 0, 0), some (.getfield 12, 3, 0, 10, 0, 286), none, none, some (.invokevirtual 95, 3, 0, 86, 0, 545), none, none, some (.ireturn, 1, 0, 0, 0, 0), some (.aload_n 0, 1, 0, 0, 0, 0), some (.getfield 12, 3, 0, 10, 0, 286), none, none, some (.invokevirtual 86, 3, 0, 83, 0, 521), none, none, some (.ireturn, 1, 0, 0, 0, 0), some (.aload_n 0, 1, 0, 0, 0, 0), some (.getfield 12, 3, 0, 10, 0, 286), none, none, some (.invokevirtual 89, 3, 0, 84, 0, 529), none, none, some (.ireturn, 1, 0, 0, 0, 0), some (.aload_n 0, 1, 0, 0, 0, 0), some (.getfield 12, 3, 0, 10, 0, 286), none, none, some (.aload_n 0, 1, 0, 0, 0, 0), some (.getfield 29, 3, 0, 10, 3, 289), none, none, some (.iload_n 1, 1, 0, 0, 0, 0), some (.iconst 1, 1, 0, 0, 0, 0), some (.iadd, 1, 0, 0, 0, 0), some (.invokevirtual 293, 3, 0, 50, 0, 645), none, none, some (.invokevirtual 83, 3, 0, 79, 0, 490), none, none, some (.ireturn, 1, 0, 0, 0, 0), some (.aload_n 0, 1, 0, 0, 0, 0), some (.getfield 12, 3, 0, 10, 0, 286), none, none, some (.aload_n 0, 1, 0, 0, 0, 0), some (.getfield 29, 3, 0, 10, 3, 289), none, none, some (.iload_n 1, 1, 0, 0, 0, 0), some (.iconst 1, 1, 0, 0, 0, 0), some (.iadd, 1, 0, 0, 0, 0), some (.invokevirtual 293, 3, 0, 50, 0, 645), none, none, some (.aload_n 0, 1, 0, 0, 0, 0), some (.getfield 29, 3, 0, 10, 3, 289), none, none, some (.aload_n 0, 1, 0, 0, 0, 0), some (.getfield 29, 3, 0, 10, 3, 289), none, none, some (.iload_n 1, 1, 0, 0, 0, 0), some (.iconst 1, 1, 0, 0, 0, 0), some (.iadd, 1, 0, 0, 0, 0), some (.invokevirtual 296, 3, 0, 49, 0, 654), none, none, some (.iconst 1, 1, 0, 0, 0, 0), some (.iadd, 1, 0, 0, 0, 0), some (.invokevirtual 293, 3, 0, 50, 0, 645), none, none, some (.invokevirtual 79, 3, 0, 77, 0, 473), none, none, some (.ireturn, 1, 0, 0, 0, 0), some (.bipush (-2), 2, 0, 0, 0, 0), none, some (.ireturn, 1, 0, 0, 0, 0)]
def xk_132 : List (Option xQ) := [some (.iload_n 0, 1, 0, 0, 0, 0), some (.ifCond .lt 13, 3, 0, 0, 0, 0), none, none, some (.iload_n 0, 1, 0, 0, 0, 0), some (.bipush 36, 2, 0, 0, 0, 0), none, some (.if_icmp .ge 7, 3, 0, 0, 0, 0), none, none, some (.iconst 1, 1, 0, 0, 0, 0), some (.goto 4, 3, 0, 0, 0, 0), none, none, some (.iconst 0, 1, 0, 0, 0, 0), some (.ireturn, 1, 0, 0, 0, 0)]
def xk_133 : List (Option xQ) := [some (.iload_n 0, 1, 0, 0, 0, 0), some (.ifCond .lt 41, 3, 0, 0, 0, 0), none, none, some (.iload_n 0, 1, 0, 0, 0, 0), some (.getstatic 299, 3, 0, 0, 0, 560), none, none, some (.arraylength, 1, 0, 0, 0, 0), some (.if_icmp .ge 33, 3, 0, 0, 0, 0), none, none, some (.iload_n 0, 1, 0, 0, 0, 0), some (.getstatic 303, 3, 0, 1, 0, 562), none, none, some (.arraylength, 1, 0, 0, 0, 0), some (.if_icmp .ge 25, 3, 0, 0, 0, 0), none, none, some (.iload_n 1, 1, 0, 0, 0, 0), some (.getstatic 299, 3, 0, 0, 0, 560), none, none, some (.iload_n 0, 1, 0, 0, 0, 0), some (.iaload, 1, 0, 0, 0, 0), some (.if_icmp .lt 16, 3, 0, 0, 0, 0), none, none, some (.iload_n 1, 1, 0, 0, 0, 0), some (.getstatic 303, 3, 0, 1, 0, 562), none, none, some (.iload_n 0, 1, 0, 0, 0, 0), some (.iaload, 1, 0, 0, 0, 0), some (.if_icmp .gt 7, 3, 0, 0, 0, 0), none, none, some (.iconst 1, 1, 0, 0, 0, 0), some (.goto 4, 3, 0, 0, 0, 0), none, none, some (.iconst 0, 1, 0, 0, 0, 0), some (.ireturn, 1, 0, 0, 0, 0)]
def xk_134 : List (Option xQ) := [some (.iload_n 1, 1, 0, 0, 0, 0), some (.ifCond .le 9, 3, 0, 0, 0, 0), none, none, some (.iload_n 0, 1, 0, 0, 0, 0), some (.iload_n 1, 1, 0, 0, 0, 0), some (.irem, 1, 0, 0, 0, 0), some (.goto 4, 3, 0, 0, 0, 0), none, none, some (.iconst 0, 1, 0, 0, 0, 0), some (.ireturn, 1, 0, 0, 0, 0)]
def xk_135 : List (Option xQ) := [some (.iload_n 1, 1, 0, 0, 0, 0), some (.iload_n 0, 1, 0, 0, 0, 0), some (.iload_n 1, 1, 0, 0, 0, 0), some (.invokestatic 264, 3, 0, 134, 0, 811), none, none, some (.isub, 1, 0, 0, 0, 0), some (.iload_n 1, 1, 0, 0, 0, 0), some (.invokestatic 264, 3, 0, 134, 0, 811), none, none, some (.ireturn, 1, 0, 0, 0, 0)]
def xk_136 : List (Option xQ) := [some (.iload_n 0, 1, 0, 0, 0, 0), some (.bipush 100, 2, 0, 0, 0, 0), none, some (.iload_n 1, 1, 0, 0, 0, 0), some (.isub, 1, 0, 0, 0, 0), some (.imul, 1, 0, 0, 0, 0), some (.bipush 100, 2, 0, 0, 0, 0), none, some (.idiv, 1, 0, 0, 0, 0), some (.ireturn, 1, 0, 0, 0, 0)]
def xk_137 : List (Option xQ) := [some (.aload_n 0, 1, 0, 0, 0, 0), some (.invokespecial 1, 3, 6, 0, 0, 866), none, none, some (.aload_n 0, 1, 0, 0, 0, 0), some (.sipush 1376, 3, 0, 0, 0, 0), none, none, some (.newarray .long, 2, 0, 101, 0, 896), none, some (.putfield 7, 3, 0, 11, 0, 868), none, none, some (.aload_n 0, 1, 0, 0, 0, 0), some (.sipush 5504, 3, 0, 0, 0, 0), none, none, some (.newarray .long, 2, 0, 101, 0, 896), none, some (.putfield 13, 3, 0, 11, 1, 869), none, none, some (.aload_n 0, 1, 0, 0, 0, 0), some (.sipush 1376, 3, 0, 0, 0, 0), none, none, some (.newarray .long, 2, 0, 101, 0, 896), none, some (.putfield 16, 3, 0, 11, 3, 871), none, none, some (.aload_n 0, 1, 0, 0, 0, 0), some (.bipush 60, 2, 0, 0, 0, 0), none, some (.newarray .int, 2, 0, 100, 0, 114), none, some (.putfield 19, 3, 0, 11, 5, 873), none, none, some (.aload_n 0, 1, 0, 0, 0, 0), some (.iconst 3, 1, 0, 0, 0, 0), some (.newarray .int, 2, 0, 100, 0, 114), none, some (.putfield 23, 3, 0, 11, 7, 875), none, none, some (.aload_n 0, 1, 0, 0, 0, 0), some (.getfield 7, 3, 0, 11, 0, 868), none, none, some (.iconst 3, 1, 0, 0, 0, 0), some (.ldc2_w 26, 3, 0, 8, 0, 867), none, none, some (.lastore, 1, 0, 0, 0, 0), some (.aload_n 0, 1, 0, 0, 0, 0), some (.getfield 7, 3, 0, 11, 0, 868), none, none, some (.iconst 4, 1, 0, 0, 0, 0), some (.lconst 1, 1, 0, 0, 0, 0), some (.lastore, 1, 0, 0, 0, 0), some (.return_, 1, 0, 0, 0, 0)]
def xk_138 : List (Option xQ) := [some (.iload_n 0, 1, 0, 0, 0, 0), some (.iload_n 1, 1, 0, 0, 0, 0), some (.if_icmp .lt 12, 3, 0, 0, 0, 0), none, none, some (.iload_n 0, 1, 0, 0, 0, 0), some (.iload_n 2, 1, 0, 0, 0, 0), some (.if_icmp .gt 7, 3, 0, 0, 0, 0), none, none, some (.iconst 1, 1, 0, 0, 0, 0), some (.goto 4, 3, 0, 0, 0, 0), none, none, some (.iconst 0, 1, 0, 0, 0, 0), some (.ireturn, 1, 0, 0, 0, 0)]
def xk_139 : List (Option xQ) := [some (.aload_n 0, 1, 0, 0, 0, 0), some (.getfield 7, 3, 0, 11, 0, 868), none, none, some (.iload_n 1, 1, 0, 0, 0, 0), some (.laload, 1, 0, 0, 0, 0), some (.l2i, 1, 0, 0, 0, 0), some (.ireturn, 1, 0, 0, 0, 0)]
def xk_140 : List (Option xQ) := [some (.aload_n 0, 1, 0, 0, 0, 0), some (.getfield 28, 3, 0, 11, 2, 870), none, none, some (.iconst 4, 1, 0, 0, 0, 0), some (.if_icmp .ne 44, 3, 0, 0, 0, 0), none, none, some (.iconst 0, 1, 0, 0, 0, 0), some (.istore_n 1, 1, 0, 0, 0, 0), some (.iload_n 1, 1, 0, 0, 0, 0), some (.sipush 4128, 3, 0, 0, 0, 0), none, none, some (.if_icmp .ge 25, 3, 0, 0, 0, 0), none, none, some (.aload_n 0, 1, 0, 0, 0, 0), some (.getfield 13, 3, 0, 11, 1, 869), none, none, some (.iload_n 1, 1, 0, 0, 0, 0), some (.aload_n 0, 1, 0, 0, 0, 0), some (.getfield 13, 3, 0, 11, 1, 869), none, none, some (.sipush 1376, 3, 0, 0, 0, 0), none, none, some (.iload_n 1, 1, 0, 0, 0, 0), some (.iadd, 1, 0, 0, 0, 0), some (.laload, 1, 0, 0, 0, 0), some (.lastore, 1, 0, 0, 0, 0), some (.iinc 1 1, 3, 0, 0, 0, 0), none, none, some (.goto (-26), 3, 0, 0, 0, 0), none, none, some (.aload_n 0, 1, 0, 0, 0, 0), some (.dup, 1, 0, 0, 0, 0), some (.getfield 28, 3, 0, 11, 2, 870), none, none, some (.iconst 1, 1, 0, 0, 0, 0), some (.isub, 1, 0, 0, 0, 0), some (.putfield 28, 3, 0, 11, 2, 870), none, none, some (.iconst 0, 1, 0, 0, 0, 0), some (.istore_n 1, 1, 0, 0, 0, 0), some (.iload_n 1, 1, 0, 0, 0, 0), some (.sipush 1376, 3, 0, 0, 0, 0), none, none, some (.if_icmp .ge 30, 3, 0, 0, 0, 0), none, none, some (.aload_n 0, 1, 0, 0, 0, 0), some (.getfield 13, 3, 0, 11, 1, 869), none, none, some (.sipush 1376, 3, 0, 0, 0, 0), none, none, some (.aload_n 0, 1, 0, 0, 0, 0), some (.getfield 28, 3, 0, 11, 2, 870), none, none, some (.imul, 1, 0, 0, 0, 0), some (.iload_n 1, 1, 0, 0, 0, 0), some (.iadd, 1, 0, 0, 0, 0), some (.aload_n 0, 1, 0, 0, 0, 0), some (.getfield 7, 3, 0, 11, 0, 868), none, none, some (.iload_n 1, 1, 0, 0, 0, 0), some (.laload, 1, 0, 0, 0, 0), some (.lastore, 1, 0, 0, 0, 0), some (.iinc 1 1, 3, 0, 0, 0, 0), none, none, some (.goto (-31), 3, 0, 0, 0, 0), none, none, some (.aload_n 0, 1, 0, 0, 0, 0), some (.dup, 1, 0, 0, 0, 0), some (.getfield 28, 3, 0, 11, 2, 870), none, none, some (.iconst 1, 1, 0, 0, 0, 0), some (.iadd, 1, 0, 0, 0, 0), some (.putfield 28, 3, 0, 11, 2, 870), none, none, some (.return_, 1, 0, 0, 0, 0)]
def xk_141 : List (Option xQ) := [some (.aload_n 0, 1, 0, 0, 0, 0), some (.getfield 7, 3, 0, 11, 0, 868), none, none, some (.bipush 32, 2, 0, 0, 0, 0), none, some (.sipush 192, 3, 0, 0, 0, 0), none, none, some (.iload_n 1, 1, 0, 0, 0, 0), some (.imul, 1, 0, 0, 0, 0), some (.iadd, 1, 0, 0, 0, 0), some (.iconst 4, 1, 0, 0, 0, 0), some (.iload_n 2, 1, 0, 0, 0, 0), some (.imul, 1, 0, 0, 0, 0), some (.iadd, 1, 0, 0, 0, 0), some (.iload_n 3, 1, 0, 0, 0, 0), some (.bipush 9, 2, 0, 0, 0, 0), none, some (.idiv, 1, 0, 0, 0, 0), some (.iadd, 1, 0, 0, 0, 0), some (.laload, 1, 0, 0, 0, 0), some (.bipush 7, 2, 0, 0, 0, 0), none, some (.iload_n 3, 1, 0, 0, 0, 0), some (.bipush 9, 2, 0, 0, 0, 0), none, some (.irem, 1, 0, 0, 0, 0), some (.imul, 1, 0, 0, 0, 0), some (.lshr, 1, 0, 0, 0, 0), some (.ldc2_w 32, 3, 0, 127, 0, 941), none, none, some (.land, 1, 0, 0, 0, 0), some (.l2i, 1, 0, 0, 0, 0), some (.ireturn, 1, 0, 0, 0, 0)]
def xk_142 : List (Option xQ) := [some (.bipush 32, 2, 0, 0, 0, 0), none, some (.sipush 192, 3, 0, 0, 0, 0), none, none, some (.iload_n 1, 1, 0, 0, 0, 0), some (.imul, 1, 0, 0, 0, 0), some (.iadd, 1, 0, 0, 0, 0), some (.iconst 4, 1, 0, 0, 0, 0), some (.iload_n 2, 1, 0, 0, 0, 0), some (.imul, 1, 0, 0, 0, 0), some (.iadd, 1, 0, 0, 0, 0), some (.iload_n 3, 1, 0, 0, 0, 0), some (.bipush 9, 2, 0, 0, 0, 0), none, some (.idiv, 1, 0, 0, 0, 0), some (.iadd, 1, 0, 0, 0, 0), some (.istore 5, 2, 0, 0, 0, 0), none, some (.bipush 7, 2, 0, 0, 0, 0), none, some (.iload_n 3, 1, 0, 0, 0, 0), some (.bipush 9, 2, 0, 0, 0, 0), none, some (.irem, 1, 0, 0, 0, 0), some (.imul, 1, 0, 0, 0, 0), some (.istore 6, 2, 0, 0, 0, 0), none, some (.aload_n 0, 1, 0, 0, 0, 0), some (.getfield 7, 3, 0, 11, 0, 868), none, none, some (.iload 5, 2, 0, 0, 0, 0), none, some (.aload_n 0, 1, 0, 0, 0, 0), some (.getfield 7, 3, 0, 11, 0, 868), none, none, some (.iload 5, 2, 0, 0, 0, 0), none, some (.laload, 1, 0, 0, 0, 0), some (.ldc2_w 32, 3, 0, 127, 0, 941), none, none, some (.iload 6, 2, 0, 0, 0, 0), none, some (.lshl, 1, 0, 0, 0, 0), some (.ldc2_w 34, 3, 0, 1, 1, 949), none, none, some (.lxor, 1, 0, 0, 0, 0), some (.land, 1, 0, 0, 0, 0), some (.iload 4, 2, 0, 0, 0, 0), none, some (.i2l, 1, 0, 0, 0, 0), some (.iload 6, 2, 0, 0, 0, 0), none, some (.lshl, 1, 0, 0, 0, 0), some (.lor, 1, 0, 0, 0, 0), some (.lastore, 1, 0, 0, 0, 0), some (.return_, 1, 0, 0, 0, 0)]
def xk_143 : List (Option xQ) := [some (.iconst 0, 1, 0, 0, 0, 0), some (.istore_n 2, 1, 0, 0, 0, 0), some (.iload_n 2, 1, 0, 0, 0, 0), some (.sipush 192, 3, 0, 0, 0, 0), none, none, some (.if_icmp .ge 25, 3, 0, 0, 0, 0), none, none, some (.aload_n 0, 1, 0, 0, 0, 0), some (.getfield 7, 3, 0, 11, 0, 868), none, none, some (.bipush 32, 2, 0, 0, 0, 0), none, some (.sipush 192, 3, 0, 0, 0, 0), none, none, some (.iload_n 1, 1, 0, 0, 0, 0), some (.imul, 1, 0, 0, 0, 0), some (.iadd, 1, 0, 0, 0, 0), some (.iload_n 2, 1, 0, 0, 0, 0), some (.iadd, 1, 0, 0, 0, 0), some (.lconst 0, 1, 0, 0, 0, 0), some (.lastore, 1, 0, 0, 0, 0), some (.iinc 2 1, 3, 0, 0, 0, 0), none, none, some (.goto (-26), 3, 0, 0, 0, 0), none, none, some (.return_, 1, 0, 0, 0, 0)]
def xk_144 : List (Option xQ) := [some (.iload_n 0, 1, 0, 0, 0, 0), some (.iload_n 1, 1, 0, 0, 0, 0), some (.iadd, 1, 0, 0, 0, 0), some (.bipush 99, 2, 0, 0, 0, 0), none, some (.if_icmp .ge 9, 3, 0, 0, 0, 0), none, none, some (.iload_n 0, 1, 0, 0, 0, 0), some (.iload_n 1, 1, 0, 0, 0, 0), some (.iadd, 1, 0, 0, 0, 0), some (.goto 5, 3, 0, 0, 0, 0), none, none, some (.bipush 99, 2, 0, 0, 0, 0), none, some (.ireturn, 1, 0, 0, 0, 0)]
def xk_145 : List (Option xQ) := [some (.iload_n 1, 1, 0, 0, 0, 0), some (.iconst 0, 1, 0, 0, 0, 0), some (.aload_n 0, 1, 0, 0, 0, 0), some (.bipush 7, 2, 0, 0, 0, 0), none, some (.invokevirtual 36, 3, 0, 139, 0, 909), none, none, some (.iconst 1, 1, 0, 0, 0, 0), some (.isub, 1, 0, 0, 0, 0), some (.invokestatic 40, 3, 0, 138, 0, 1001), none, none, some (.ireturn, 1, 0, 0, 0, 0)]
def xk_146 : List (Option xQ) := [some (.iconst 0, 1, 0, 0, 0, 0), some (.istore_n 2, 1, 0, 0, 0, 0), some (.iconst 0, 1, 0, 0, 0, 0), some (.istore_n 3, 1, 0, 0, 0, 0), some (.iload_n 3, 1, 0, 0, 0, 0), some (.iload_n 1, 1, 0, 0, 0, 0), some (.if_icmp .ge 34, 3, 0, 0, 0, 0), none, none, some (.aload_n 0, 1, 0, 0, 0, 0), some (.bipush 14, 2, 0, 0, 0, 0), none, some (.iload_n 3, 1, 0, 0, 0, 0), some (.iadd, 1, 0, 0, 0, 0), some (.invokevirtual 36, 3, 0, 139, 0, 909), none, none, some (.iload_n 2, 1, 0, 0, 0, 0), some (.if_icmp .le 14, 3, 0, 0, 0, 0), none, none, some (.aload_n 0, 1, 0, 0, 0, 0), some (.bipush 14, 2, 0, 0, 0, 0), none, some (.iload_n 3, 1, 0, 0, 0, 0), some (.iadd, 1, 0, 0, 0, 0), some (.invokevirtual 36, 3, 0, 139, 0, 909), none, none, some (.goto 4, 3, 0, 0, 0, 0), none, none, some (.iload_n 2, 1, 0, 0, 0, 0), some (.istore_n 2, 1, 0, 0, 0, 0), some (.iinc 3 1, 3, 0, 0, 0, 0), none, none, some (.goto (-33), 3, 0, 0, 0, 0), none, none, some (.iload_n 2, 1, 0, 0, 0, 0), some (.ireturn, 1, 0, 0, 0, 0)]
def xk_147 : List (Option xQ) := [some (.aload_n 0, 1, 0, 0, 0, 0), some (.aload_n 0, 1, 0, 0, 0, 0), some (.bipush 7, 2, 0, 0, 0, 0), none, some (.invokevirtual 36, 3, 0, 139, 0, 909), none, none, some (.invokevirtual 44, 3, 0, 146, 0, 967), none, none, some (.ireturn, 1, 0, 0, 0, 0)]
def xk_148 : List (Option xQ) := [some (.aload_n 0, 1, 0, 0, 0, 0), some (.iconst 0, 1, 0, 0, 0, 0), some (.invokevirtual 36, 3, 0, 139, 0, 909), none, none, some (.iconst 1, 1, 0, 0, 0, 0), some (.if_icmp .eq 12, 3, 0, 0, 0, 0), none, none, some (.aload_n 0, 1, 0, 0, 0, 0), some (.iconst 0, 1, 0, 0, 0, 0), some (.invokevirtual 36, 3, 0, 139, 0, 909), none, none, some (.iconst 3, 1, 0, 0, 0, 0), some (.if_icmp .ne 7, 3, 0, 0, 0, 0), none, none, some (.iconst 1, 1, 0, 0, 0, 0), some (.goto 4, 3, 0, 0, 0, 0), none, none, some (.iconst 0, 1, 0, 0, 0, 0), some (.ireturn, 1, 0, 0, 0, 0)]
def xk_149 : List (Option xQ) := [some (.aload_n 0, 1, 0, 0, 0, 0), some (.getfield 7, 3, 0, 11, 0, 868), none, none, some (.iconst 0, 1, 0, 0, 0, 0), some (.ldc2_w 47, 3, 0, 2, 0, 958), none, none, some (.lastore, 1, 0, 0, 0, 0), some (.aload_n 0, 1, 0, 0, 0, 0), some (.getfield 7, 3, 0, 11, 0, 868), none, none, some (.iconst 1, 1, 0, 0, 0, 0), some (.lconst 0, 1, 0, 0, 0, 0), some (.lastore, 1, 0, 0, 0, 0), some (.aload_n 0, 1, 0, 0, 0, 0), some (.getfield 7, 3, 0, 11, 0, 868), none, none, some (.bipush 9, 2, 0, 0, 0, 0), none, some (.lconst 0, 1, 0, 0, 0, 0), some (.lastore, 1, 0, 0, 0, 0), some (.aload_n 0, 1, 0, 0, 0, 0), some (.getfield 7, 3, 0, 11, 0, 868), none, none, some (.bipush 10, 2, 0, 0, 0, 0), none, some (.lconst 0, 1, 0, 0, 0, 0), some (.lastore, 1, 0, 0, 0, 0), some (.return_, 1, 0, 0, 0, 0)]
def xk_150 : List (Option xQ) := [some (.aload_n 0, 1, 0, 0, 0, 0), some (.getfield 7, 3, 0, 11, 0, 868), none, none, some (.iconst 0, 1, 0, 0, 0, 0), some (.aload_n 0, 1, 0, 0, 0, 0), some (.iconst 0, 1, 0, 0, 0, 0), some (.invokevirtual 36, 3, 0, 139, 0, 909), none, none, some (.ifCond .ne 7, 3, 0, 0, 0, 0), none, none, some (.lconst 1, 1, 0, 0, 0, 0), some (.goto 6, 3, 0, 0, 0, 0), none, none, some (.ldc2_w 49, 3, 0, 3, 0, 975), none, none, some (.lastore, 1, 0, 0, 0, 0), some (.aload_n 0, 1, 0, 0, 0, 0), some (.getfield 7, 3, 0, 11, 0, 868), none, none, some (.bipush 12, 2, 0, 0, 0, 0), none, some (.aload_n 0, 1, 0, 0, 0, 0), some (.getfield 7, 3, 0, 11, 0, 868), none, none, some (.iconst 1, 1, 0, 0, 0, 0), some (.laload, 1, 0, 0, 0, 0), some (.lastore, 1, 0, 0, 0, 0), some (.aload_n 0, 1, 0, 0, 0, 0), some (.getfield 7, 3, 0, 11, 0, 868), none, none, some (.bipush 11, 2, 0, 0, 0, 0), none, some (.lconst 0, 1, 0, 0, 0, 0), some (.lastore, 1, 0, 0, 0, 0), some (.aload_n 0, 1, 0, 0, 0, 0), some (.bipush 6, 2, 0, 0, 0, 0), none, some (.invokevirtual 51, 3, 0, 143, 0, 933), none, none, some (.return_, 1, 0, 0, 0, 0)]
def xk_151 : List (Option xQ) := [some (.aload_n 0, 1, 0, 0, 0, 0), some (.getfield 7, 3, 0, 11, 0, 868), none, none, some (.bipush 11, 2, 0, 0, 0, 0), none, some (.lconst 0, 1, 0, 0, 0, 0), some (.lastore, 1, 0, 0, 0, 0), some (.aload_n 0, 1, 0, 0, 0, 0), some (.bipush 6, 2, 0, 0, 0, 0), none, some (.invokevirtual 51, 3, 0, 143, 0, 933), none, none, some (.return_, 1, 0, 0, 0, 0)]
def xk_152 : List (Option xQ) := [some (.aload_n 0, 1, 0, 0, 0, 0), some (.bipush 7, 2, 0, 0, 0, 0), none, some (.invokevirtual 36, 3, 0, 139, 0, 909), none, none, some (.istore_n 3, 1, 0, 0, 0, 0), some (.aload_n 0, 1, 0, 0, 0, 0), some (.iload_n 3, 1, 0, 0, 0, 0), some (.invokevirtual 51, 3, 0, 143, 0, 933), none, none, some (.iconst 0, 1, 0, 0, 0, 0), some (.istore 4, 2, 0, 0, 0, 0), none, some (.iload 4, 2, 0, 0, 0, 0), none, some (.iload_n 1, 1, 0, 0, 0, 0), some (.bipush 36, 2, 0, 0, 0, 0), none, some (.imul, 1, 0, 0, 0, 0), some (.if_icmp .ge 77, 3, 0, 0, 0, 0), none, none, some (.aload_n 0, 1, 0, 0, 0, 0), some (.bipush 6, 2, 0, 0, 0, 0), none, some (.iload 4, 2, 0, 0, 0, 0), none, some (.bipush 36, 2, 0, 0, 0, 0), none, some (.idiv, 1, 0, 0, 0, 0), some (.iload 4, 2, 0, 0, 0, 0), none, some (.bipush 36, 2, 0, 0, 0, 0), none, some (.irem, 1, 0, 0, 0, 0), some (.invokevirtual 55, 3, 0, 141, 0, 937), none, none, some (.istore 5, 2, 0, 0, 0, 0), none, some (.iload_n 2, 1, 0, 0, 0, 0), some (.ifCond .ne 7, 3, 0, 0, 0, 0), none, none, some (.iconst 0, 1, 0, 0, 0, 0), some (.goto 21, 3, 0, 0, 0, 0), none, none, some (.aload_n 0, 1, 0, 0, 0, 0), some (.bipush 6, 2, 0, 0, 0, 0), none, some (.iload 4, 2, 0, 0, 0, 0), none, some (.bipush 36, 2, 0, 0, 0, 0), none, some (.idiv, 1, 0, 0, 0, 0), some (.iload_n 2, 1, 0, 0, 0, 0), some (.iadd, 1, 0, 0, 0, 0), some (.iload 4, 2, 0, 0, 0, 0), none, some (.bipush 36, 2, 0, 0, 0, 0), none, some (.irem, 1, 0, 0, 0, 0), some (.invokevirtual 55, 3, 0, 141, 0, 937), none, none, some (.istore 6, 2, 0, 0, 0, 0), none, some (.aload_n 0, 1, 0, 0, 0, 0), some (.iload_n 3, 1, 0, 0, 0, 0), some (.iload 4, 2, 0, 0, 0, 0), none, some (.bipush 36, 2, 0, 0, 0, 0), none, some (.idiv, 1, 0, 0, 0, 0), some (.iload 4, 2, 0, 0, 0, 0), none, some (.bipush 36, 2, 0, 0, 0, 0), none, some (.irem, 1, 0, 0, 0, 0), some (.iload 5, 2, 0, 0, 0, 0), none, some (.iload 6, 2, 0, 0, 0, 0), none, some (.invokestatic 59, 3, 0, 144, 0, 942), none, none, some (.invokevirtual 63, 3, 0, 142, 0, 945), none, none, some (.iinc 4 1, 3, 0, 0, 0, 0), none, none, some (.goto (-80), 3, 0, 0, 0, 0), none, none, some (.aload_n 0, 1, 0, 0, 0, 0), some (.getfield 7, 3, 0, 11, 0, 868), none, none, some (.bipush 14, 2, 0, 0, 0, 0), none, some (.iload_n 3, 1, 0, 0, 0, 0), some (.iadd, 1, 0, 0, 0, 0), some (.iload_n 1, 1, 0, 0, 0, 0), some (.i2l, 1, 0, 0, 0, 0), some (.lastore, 1, 0, 0, 0, 0), some (.aload_n 0, 1, 0, 0, 0, 0), some (.getfield 7, 3, 0, 11, 0, 868), none, none, some (.bipush 20, 2, 0, 0, 0, 0), none, some (.iload_n 3, 1, 0, 0, 0, 0), some (.iadd, 1, 0, 0, 0, 0), some (.lconst 0, 1, 0, 0, 0, 0), some (.lastore, 1, 0, 0, 0, 0), some (.aload_n 0, 1, 0, 0, 0, 0), some (.getfield 7, 3, 0, 11, 0, 868), none, none, some (.bipush 26, 2, 0, 0, 0, 0), none, some (.iload_n 3, 1, 0, 0, 0, 0), some (.iadd, 1, 0, 0, 0, 0), some (.lconst 0, 1, 0, 0, 0, 0), some (.lastore, 1, 0, 0, 0, 0), some (.aload_n 0, 1, 0, 0, 0, 0), some (.getfield 7, 3, 0, 11, 0, 868), none, none, some (.bipush 7, 2, 0, 0, 0, 0), none, some (.dup2, 1, 0, 0, 0, 0), some (.laload, 1, 0, 0, 0, 0), some (.lconst 1, 1, 0, 0, 0, 0), some (.ladd, 1, 0, 0, 0, 0), some (.lastore, 1, 0, 0, 0, 0), some (.aload_n 0, 1, 0, 0, 0, 0), some (.getfield 7, 3, 0, 11, 0, 868), none, none, some (.bipush 8, 2, 0, 0, 0, 0), none, some (.lconst 0, 1, 0, 0, 0, 0), some (.lastore, 1, 0, 0, 0, 0), some (.aload_n 0, 1, 0, 0, 0, 0), some (.getfield 7, 3, 0, 11, 0, 868), none, none, some (.bipush 13, 2, 0, 0, 0, 0), none, some (.dup2, 1, 0, 0, 0, 0), some (.laload, 1, 0, 0, 0, 0), some (.lconst 1, 1, 0, 0, 0, 0), some (.ladd, 1, 0, 0, 0, 0), some (.lastore, 1, 0, 0, 0, 0), some (.return_, 1, 0, 0, 0, 0)]
def xk_153 : List (Option xQ) := [some (.aload_n 0, 1, 0, 0, 0, 0), some (.iconst 3, 1, 0, 0, 0, 0), some (.invokevirtual 36, 3, 0, 139, 0, 909), none, none, some (.istore_n 2, 1, 0, 0, 0, 0), some (.iconst 0, 1, 0, 0, 0, 0), some (.istore_n 3, 1, 0, 0, 0, 0), some (.iload_n 2, 1, 0, 0, 0, 0), some (.istore 4, 2, 0, 0, 0, 0), none, some (.iload 4, 2, 0, 0, 0, 0), none, some (.bipush 24, 2, 0, 0, 0, 0), none, some (.if_icmp .gt 65, 3, 0, 0, 0, 0), none, none, some (.iload 4, 2, 0, 0, 0, 0), none, some (.iload_n 1, 1, 0, 0, 0, 0), some (.if_icmp .le 10, 3, 0, 0, 0, 0), none, none, some (.iload 4, 2, 0, 0, 0, 0), none, some (.iload_n 1, 1, 0, 0, 0, 0), some (.isub, 1, 0, 0, 0, 0), some (.goto 7, 3, 0, 0, 0, 0), none, none, some (.iload_n 1, 1, 0, 0, 0, 0), some (.iload 4, 2, 0, 0, 0, 0), none, some (.isub, 1, 0, 0, 0, 0), some (.istore 5, 2, 0, 0, 0, 0), none, some (.iload_n 3, 1, 0, 0, 0, 0), some (.iload_n 1, 1, 0, 0, 0, 0), some (.if_icmp .le 9, 3, 0, 0, 0, 0), none, none, some (.iload_n 3, 1, 0, 0, 0, 0), some (.iload_n 1, 1, 0, 0, 0, 0), some (.isub, 1, 0, 0, 0, 0), some (.goto 6, 3, 0, 0, 0, 0), none, none, some (.iload_n 1, 1, 0, 0, 0, 0), some (.iload_n 3, 1, 0, 0, 0, 0), some (.isub, 1, 0, 0, 0, 0), some (.istore 6, 2, 0, 0, 0, 0), none, some (.iload_n 3, 1, 0, 0, 0, 0), some (.ifCond .eq 10, 3, 0, 0, 0, 0), none, none, some (.iload 5, 2, 0, 0, 0, 0), none, some (.iload 6, 2, 0, 0, 0, 0), none, some (.if_icmp .ge 8, 3, 0, 0, 0, 0), none, none, some (.iload 4, 2, 0, 0, 0, 0), none, some (.goto 4, 3, 0, 0, 0, 0), none, none, some (.iload_n 3, 1, 0, 0, 0, 0), some (.istore_n 3, 1, 0, 0, 0, 0), some (.iload 4, 2, 0, 0, 0, 0), none, some (.iload_n 2, 1, 0, 0, 0, 0), some (.iadd, 1, 0, 0, 0, 0), some (.istore 4, 2, 0, 0, 0, 0), none, some (.goto (-66), 3, 0, 0, 0, 0), none, none, some (.iload_n 3, 1, 0, 0, 0, 0), some (.iload_n 1, 1, 0, 0, 0, 0), some (.if_icmp .le 9, 3, 0, 0, 0, 0), none, none, some (.iload_n 3, 1, 0, 0, 0, 0), some (.iload_n 1, 1, 0, 0, 0, 0), some (.isub, 1, 0, 0, 0, 0), some (.goto 6, 3, 0, 0, 0, 0), none, none, some (.iload_n 1, 1, 0, 0, 0, 0), some (.iload_n 3, 1, 0, 0, 0, 0), some (.isub, 1, 0, 0, 0, 0), some (.istore 4, 2, 0, 0, 0, 0), none, some (.iload_n 3, 1, 0, 0, 0, 0), some (.ifCond .le 20, 3, 0, 0, 0, 0), none, none, some (.iload 4, 2, 0, 0, 0, 0), none, some (.i2l, 1, 0, 0, 0, 0), some (.aload_n 0, 1, 0, 0, 0, 0), some (.getfield 7, 3, 0, 11, 0, 868), none, none, some (.iconst 4, 1, 0, 0, 0, 0), some (.laload, 1, 0, 0, 0, 0), some (.lcmp, 1, 0, 0, 0, 0), some (.ifCond .gt 7, 3, 0, 0, 0, 0), none, none, some (.iload_n 3, 1, 0, 0, 0, 0), some (.goto 4, 3, 0, 0, 0, 0), none, none, some (.iload_n 1, 1, 0, 0, 0, 0), some (.ireturn, 1, 0, 0, 0, 0)]
def xk_154 : List (Option xQ) := [some (.aload_n 0, 1, 0, 0, 0, 0), some (.bipush 11, 2, 0, 0, 0, 0), none, some (.invokevirtual 36, 3, 0, 139, 0, 909), none, none, some (.iconst 1, 1, 0, 0, 0, 0), some (.iadd, 1, 0, 0, 0, 0), some (.iconst 2, 1, 0, 0, 0, 0), some (.idiv, 1, 0, 0, 0, 0), some (.istore_n 1, 1, 0, 0, 0, 0), some (.aload_n 0, 1, 0, 0, 0, 0), some (.iload_n 1, 1, 0, 0, 0, 0), some (.bipush 24, 2, 0, 0, 0, 0), none, some (.if_icmp .ge 7, 3, 0, 0, 0, 0), none, none, some (.iload_n 1, 1, 0, 0, 0, 0), some (.goto 5, 3, 0, 0, 0, 0), none, none, some (.bipush 24, 2, 0, 0, 0, 0), none, some (.invokevirtual 67, 3, 0, 153, 0, 925), none, none, some (.istore_n 2, 1, 0, 0, 0, 0), some (.aload_n 0, 1, 0, 0, 0, 0), some (.iload_n 2, 1, 0, 0, 0, 0), some (.iconst 0, 1, 0, 0, 0, 0), some (.invokevirtual 70, 3, 0, 152, 0, 929), none, none, some (.aload_n 0, 1, 0, 0, 0, 0), some (.getfield 7, 3, 0, 11, 0, 868), none, none, some (.bipush 6, 2, 0, 0, 0, 0), none, some (.iload_n 2, 1, 0, 0, 0, 0), some (.i2l, 1, 0, 0, 0, 0), some (.lastore, 1, 0, 0, 0, 0), some (.aload_n 0, 1, 0, 0, 0, 0), some (.invokevirtual 74, 3, 0, 151, 0, 950), none, none, some (.aload_n 0, 1, 0, 0, 0, 0), some (.invokevirtual 77, 3, 0, 149, 0, 954), none, none, some (.return_, 1, 0, 0, 0, 0)]
def xk_155 : List (Option xQ) := [some (.aload_n 0, 1, 0, 0, 0, 0), some (.bipush 6, 2, 0, 0, 0, 0), none, some (.invokevirtual 36, 3, 0, 139, 0, 909), none, none, some (.istore_n 1, 1, 0, 0, 0, 0), some (.aload_n 0, 1, 0, 0, 0, 0), some (.invokevirtual 80, 3, 0, 147, 0, 963), none, none, some (.iconst 2, 1, 0, 0, 0, 0), some (.iload_n 1, 1, 0, 0, 0, 0), some (.imul, 1, 0, 0, 0, 0), some (.if_icmp .eq 15, 3, 0, 0, 0, 0), none, none, some (.aload_n 0, 1, 0, 0, 0, 0), some (.bipush 11, 2, 0, 0, 0, 0), none, some (.invokevirtual 36, 3, 0, 139, 0, 909), none, none, some (.iconst 2, 1, 0, 0, 0, 0), some (.iload_n 1, 1, 0, 0, 0, 0), some (.imul, 1, 0, 0, 0, 0), some (.if_icmp .le 40, 3, 0, 0, 0, 0), none, none, some (.aload_n 0, 1, 0, 0, 0, 0), some (.iconst 2, 1, 0, 0, 0, 0), some (.iload_n 1, 1, 0, 0, 0, 0), some (.imul, 1, 0, 0, 0, 0), some (.iconst 0, 1, 0, 0, 0, 0), some (.invokevirtual 70, 3, 0, 152, 0, 929), none, none, some (.aload_n 0, 1, 0, 0, 0, 0), some (.getfield 7, 3, 0, 11, 0, 868), none, none, some (.iconst 1, 1, 0, 0, 0, 0), some (.aload_n 0, 1, 0, 0, 0, 0), some (.getfield 7, 3, 0, 11, 0, 868), none, none, some (.bipush 12, 2, 0, 0, 0, 0), none, some (.laload, 1, 0, 0, 0, 0), some (.aload_n 0, 1, 0, 0, 0, 0), some (.getfield 7, 3, 0, 11, 0, 868), none, none, some (.bipush 11, 2, 0, 0, 0, 0), none, some (.laload, 1, 0, 0, 0, 0), some (.ladd, 1, 0, 0, 0, 0), some (.iconst 4, 1, 0, 0, 0, 0), some (.iload_n 1, 1, 0, 0, 0, 0), some (.imul, 1, 0, 0, 0, 0), some (.i2l, 1, 0, 0, 0, 0), some (.lrem, 1, 0, 0, 0, 0), some (.lastore, 1, 0, 0, 0, 0), some (.goto 9, 3, 0, 0, 0, 0), none, none, some (.aload_n 0, 1, 0, 0, 0, 0), some (.iload_n 1, 1, 0, 0, 0, 0), some (.iload_n 1, 1, 0, 0, 0, 0), some (.invokevirtual 70, 3, 0, 152, 0, 929), none, none, some (.aload_n 0, 1, 0, 0, 0, 0), some (.invokevirtual 74, 3, 0, 151, 0, 950), none, none, some (.aload_n 0, 1, 0, 0, 0, 0), some (.getfield 7, 3, 0, 11, 0, 868), none, none, some (.iconst 0, 1, 0, 0, 0, 0), some (.ldc2_w 47, 3, 0, 2, 0, 958), none, none, some (.lastore, 1, 0, 0, 0, 0), some (.return_, 1, 0, 0, 0, 0)]
def xk_156 : List (Option xQ) := [some (.aload_n 0, 1, 0, 0, 0, 0), some (.invokevirtual 84, 3, 0, 148, 0, 905), none, none, some (.ifCond .eq 16, 3, 0, 0, 0, 0), none, none, some (.aload_n 0, 1, 0, 0, 0, 0), some (.bipush 11, 2, 0, 0, 0, 0), none, some (.invokevirtual 36, 3, 0, 139, 0, 909), none, none, some (.ifCond .ne 7, 3, 0, 0, 0, 0), none, none, some (.iconst 1, 1, 0, 0, 0, 0), some (.goto 4, 3, 0, 0, 0, 0), none, none, some (.iconst 0, 1, 0, 0, 0, 0), some (.istore_n 1, 1, 0, 0, 0, 0), some (.iload_n 1, 1, 0, 0, 0, 0), some (.ifCond .eq 8, 3, 0, 0, 0, 0), none, none, some (.bipush (-2), 2, 0, 0, 0, 0), none, some (.goto 29, 3, 0, 0, 0, 0), none, none, some (.aload_n 0, 1, 0, 0, 0, 0), some (.iconst 0, 1, 0, 0, 0, 0), some (.invokevirtual 36, 3, 0, 139, 0, 909), none, none, some (.iconst 2, 1, 0, 0, 0, 0), some (.if_icmp .ne 19, 3, 0, 0, 0, 0), none, none, some (.aload_n 0, 1, 0, 0, 0, 0), some (.bipush 7, 2, 0, 0, 0, 0), none, some (.invokevirtual 36, 3, 0, 139, 0, 909), none, none, some (.bipush 6, 2, 0, 0, 0, 0), none, some (.if_icmp .ne 8, 3, 0, 0, 0, 0), none, none, some (.bipush (-3), 2, 0, 0, 0, 0), none, some (.goto 4, 3, 0, 0, 0, 0), none, none, some (.iconst 0, 1, 0, 0, 0, 0), some (.ireturn, 1, 0, 0, 0, 0)]
def xk_157 : List (Option xQ) := [some (.aload_n 0, 1, 0, 0, 0, 0), some (.iconst 0, 1, 0, 0, 0, 0), some (.invokevirtual 36, 3, 0, 139, 0, 909), none, none, some (.tableswitch 52 1 4 #[31, 52, 38, 45], 31, 0, 0, 0, 0), none, none, none, none, none, none, none, none, none, none, none, none, none, none, none, none, none, none, none, none, none, none, none, none, none, none, none, none, none, none, some (.aload_n 0, 1, 0, 0, 0, 0), some (.invokevirtual 88, 3, 0, 154, 0, 921), none, none, some (.goto 21, 3, 0, 0, 0, 0), none, none, some (.aload_n 0, 1, 0, 0, 0, 0), some (.invokevirtual 91, 3, 0, 155, 0, 959), none, none, some (.goto 14, 3, 0, 0, 0, 0), none, none, some (.aload_n 0, 1, 0, 0, 0, 0), some (.invokevirtual 77, 3, 0, 149, 0, 954), none, none, some (.goto 7, 3, 0, 0, 0, 0), none, none, some (.aload_n 0, 1, 0, 0, 0, 0), some (.invokevirtual 94, 3, 0, 150, 0, 971), none, none, some (.return_, 1, 0, 0, 0, 0)]
def xk_158 : List (Option xQ) := [some (.aload_n 0, 1, 0, 0, 0, 0), some (.iconst 0, 1, 0, 0, 0, 0), some (.invokevirtual 36, 3, 0, 139, 0, 909), none, none, some (.ifCond .eq 12, 3, 0, 0, 0, 0), none, none, some (.aload_n 0, 1, 0, 0, 0, 0), some (.iconst 0, 1, 0, 0, 0, 0), some (.invokevirtual 36, 3, 0, 139, 0, 909), none, none, some (.iconst 4, 1, 0, 0, 0, 0), some (.if_icmp .ne 8, 3, 0, 0, 0, 0), none, none, some (.bipush (-2), 2, 0, 0, 0, 0), none, some (.goto 4, 3, 0, 0, 0, 0), none, none, some (.iconst 0, 1, 0, 0, 0, 0), some (.ireturn, 1, 0, 0, 0, 0)]
def xk_159 : List (Option xQ) := [some (.aload_n 0, 1, 0, 0, 0, 0), some (.getfield 7, 3, 0, 11, 0, 868), none, none, some (.iconst 0, 1, 0, 0, 0, 0), some (.aload_n 0, 1, 0, 0, 0, 0), some (.iconst 0, 1, 0, 0, 0, 0), some (.invokevirtual 36, 3, 0, 139, 0, 909), none, none, some (.iconst 1, 1, 0, 0, 0, 0), some (.if_icmp .ne 7, 3, 0, 0, 0, 0), none, none, some (.lconst 0, 1, 0, 0, 0, 0), some (.goto 6, 3, 0, 0, 0, 0), none, none, some (.ldc2_w 97, 3, 0, 4, 0, 988), none, none, some (.lastore, 1, 0, 0, 0, 0), some (.aload_n 0, 1, 0, 0, 0, 0), some (.invokevirtual 74, 3, 0, 151, 0, 950), none, none, some (.return_, 1, 0, 0, 0, 0)]
def xk_160 : List (Option xQ) := [some (.ldc2_w 99, 3, 0, 100, 0, 1024), none, none, some (.aload_n 0, 1, 0, 0, 0, 0), some (.getfield 7, 3, 0, 11, 0, 868), none, none, some (.iconst 5, 1, 0, 0, 0, 0), some (.laload, 1, 0, 0, 0, 0), some (.lsub, 1, 0, 0, 0, 0), some (.lstore_n 1, 1, 0, 0, 0, 0), some (.iconst 0, 1, 0, 0, 0, 0), some (.istore_n 3, 1, 0, 0, 0, 0), some (.iload_n 3, 1, 0, 0, 0, 0), some (.aload_n 0, 1, 0, 0, 0, 0), some (.bipush 7, 2, 0, 0, 0, 0), none, some (.invokevirtual 36, 3, 0, 139, 0, 909), none, none, some (.if_icmp .ge 89, 3, 0, 0, 0, 0), none, none, some (.aload_n 0, 1, 0, 0, 0, 0), some (.getfield 7, 3, 0, 11, 0, 868), none, none, some (.bipush 26, 2, 0, 0, 0, 0), none, some (.iload_n 3, 1, 0, 0, 0, 0), some (.iadd, 1, 0, 0, 0, 0), some (.dup2, 1, 0, 0, 0, 0), some (.laload, 1, 0, 0, 0, 0), some (.lconst 1, 1, 0, 0, 0, 0), some (.ladd, 1, 0, 0, 0, 0), some (.lastore, 1, 0, 0, 0, 0), some (.iconst 0, 1, 0, 0, 0, 0), some (.istore 4, 2, 0, 0, 0, 0), none, some (.iload 4, 2, 0, 0, 0, 0), none, some (.aload_n 0, 1, 0, 0, 0, 0), some (.bipush 14, 2, 0, 0, 0, 0), none, some (.iload_n 3, 1, 0, 0, 0, 0), some (.iadd, 1, 0, 0, 0, 0), some (.invokevirtual 36, 3, 0, 139, 0, 909), none, none, some (.bipush 36, 2, 0, 0, 0, 0), none, some (.imul, 1, 0, 0, 0, 0), some (.if_icmp .ge 51, 3, 0, 0, 0, 0), none, none, some (.aload_n 0, 1, 0, 0, 0, 0), some (.iload_n 3, 1, 0, 0, 0, 0), some (.iload 4, 2, 0, 0, 0, 0), none, some (.bipush 36, 2, 0, 0, 0, 0), none, some (.idiv, 1, 0, 0, 0, 0), some (.iload 4, 2, 0, 0, 0, 0), none, some (.bipush 36, 2, 0, 0, 0, 0), none, some (.irem, 1, 0, 0, 0, 0), some (.invokevirtual 55, 3, 0, 141, 0, 937), none, none, some (.istore 5, 2, 0, 0, 0, 0), none, some (.aload_n 0, 1, 0, 0, 0, 0), some (.iload_n 3, 1, 0, 0, 0, 0), some (.iload 4, 2, 0, 0, 0, 0), none, some (.bipush 36, 2, 0, 0, 0, 0), none, some (.idiv, 1, 0, 0, 0, 0), some (.iload 4, 2, 0, 0, 0, 0), none, some (.bipush 36, 2, 0, 0, 0, 0), none, some (.irem, 1, 0, 0, 0, 0), some (.iload 5, 2, 0, 0, 0, 0), none, some (.i2l, 1, 0, 0, 0, 0), some (.lload_n 1, 1, 0, 0, 0, 0), some (.lmul, 1, 0, 0, 0, 0), some (.ldc2_w 99, 3, 0, 100, 0, 1024), none, none, some (.ldiv, 1, 0, 0, 0, 0), some (.l2i, 1, 0, 0, 0, 0), some (.invokevirtual 63, 3, 0, 142, 0, 945), none, none, some (.iinc 4 1, 3, 0, 0, 0, 0), none, none, some (.goto (-61), 3, 0, 0, 0, 0), none, none, some (.iinc 3 1, 3, 0, 0, 0, 0), none, none, some (.goto (-93), 3, 0, 0, 0, 0), none, none, some (.return_, 1, 0, 0, 0, 0)]
def xk_161 : List (Option xQ) := [some (.ldc2_w 47, 3, 0, 2, 0, 958), none, none, some (.aload_n 0, 1, 0, 0, 0, 0), some (.getfield 7, 3, 0, 11, 0, 868), none, none, some (.iconst 2, 1, 0, 0, 0, 0), some (.laload, 1, 0, 0, 0, 0), some (.lsub, 1, 0, 0, 0, 0), some (.lstore_n 1, 1, 0, 0, 0, 0), some (.aload_n 0, 1, 0, 0, 0, 0), some (.iconst 0, 1, 0, 0, 0, 0), some (.invokevirtual 36, 3, 0, 139, 0, 909), none, none, some (.istore_n 3, 1, 0, 0, 0, 0), some (.iload_n 3, 1, 0, 0, 0, 0), some (.ifCond .eq 8, 3, 0, 0, 0, 0), none, none, some (.iload_n 3, 1, 0, 0, 0, 0), some (.iconst 4, 1, 0, 0, 0, 0), some (.if_icmp .ne 5, 3, 0, 0, 0, 0), none, none, some (.iconst 0, 1, 0, 0, 0, 0), some (.ireturn, 1, 0, 0, 0, 0), some (.aload_n 0, 1, 0, 0, 0, 0), some (.getfield 7, 3, 0, 11, 0, 868), none, none, some (.bipush 11, 2, 0, 0, 0, 0), none, some (.dup2, 1, 0, 0, 0, 0), some (.laload, 1, 0, 0, 0, 0), some (.iload_n 3, 1, 0, 0, 0, 0), some (.iconst 2, 1, 0, 0, 0, 0), some (.if_icmp .ne 7, 3, 0, 0, 0, 0), none, none, some (.lconst 0, 1, 0, 0, 0, 0), some (.goto 4, 3, 0, 0, 0, 0), none, none, some (.lload_n 1, 1, 0, 0, 0, 0), some (.ladd, 1, 0, 0, 0, 0), some (.lastore, 1, 0, 0, 0, 0), some (.iload_n 3, 1, 0, 0, 0, 0), some (.iconst 1, 1, 0, 0, 0, 0), some (.if_icmp .ne 20, 3, 0, 0, 0, 0), none, none, some (.aload_n 0, 1, 0, 0, 0, 0), some (.bipush 11, 2, 0, 0, 0, 0), none, some (.invokevirtual 36, 3, 0, 139, 0, 909), none, none, some (.bipush 48, 2, 0, 0, 0, 0), none, some (.if_icmp .lt 7, 3, 0, 0, 0, 0), none, none, some (.aload_n 0, 1, 0, 0, 0, 0), some (.invokevirtual 88, 3, 0, 154, 0, 921), none, none, some (.iconst 0, 1, 0, 0, 0, 0), some (.ireturn, 1, 0, 0, 0, 0), some (.aload_n 0, 1, 0, 0, 0, 0), some (.getfield 7, 3, 0, 11, 0, 868), none, none, some (.iconst 1, 1, 0, 0, 0, 0), some (.dup2, 1, 0, 0, 0, 0), some (.laload, 1, 0, 0, 0, 0), some (.lload_n 1, 1, 0, 0, 0, 0), some (.ladd, 1, 0, 0, 0, 0), some (.lastore, 1, 0, 0, 0, 0), some (.aload_n 0, 1, 0, 0, 0, 0), some (.getfield 7, 3, 0, 11, 0, 868), none, none, some (.bipush 10, 2, 0, 0, 0, 0), none, some (.dup2, 1, 0, 0, 0, 0), some (.laload, 1, 0, 0, 0, 0), some (.lload_n 1, 1, 0, 0, 0, 0), some (.ladd, 1, 0, 0, 0, 0), some (.lastore, 1, 0, 0, 0, 0), some (.iconst 0, 1, 0, 0, 0, 0), some (.istore 4, 2, 0, 0, 0, 0), none, some (.aload_n 0, 1, 0, 0, 0, 0), some (.iconst 1, 1, 0, 0, 0, 0), some (.invokevirtual 36, 3, 0, 139, 0, 909), none, none, some (.iconst 2, 1, 0, 0, 0, 0), some (.aload_n 0, 1, 0, 0, 0, 0), some (.invokevirtual 80, 3, 0, 147, 0, 963), none, none, some (.imul, 1, 0, 0, 0, 0), some (.if_icmp .lt 37, 3, 0, 0, 0, 0), none, none, some (.aload_n 0, 1, 0, 0, 0, 0), some (.getfield 7, 3, 0, 11, 0, 868), none, none, some (.iconst 1, 1, 0, 0, 0, 0), some (.dup2, 1, 0, 0, 0, 0), some (.laload, 1, 0, 0, 0, 0), some (.iconst 2, 1, 0, 0, 0, 0), some (.aload_n 0, 1, 0, 0, 0, 0), some (.invokevirtual 80, 3, 0, 147, 0, 963), none, none, some (.imul, 1, 0, 0, 0, 0), some (.i2l, 1, 0, 0, 0, 0), some (.lsub, 1, 0, 0, 0, 0), some (.lastore, 1, 0, 0, 0, 0), some (.aload_n 0, 1, 0, 0, 0, 0), some (.getfield 7, 3, 0, 11, 0, 868), none, none, some (.bipush 9, 2, 0, 0, 0, 0), none, some (.dup2, 1, 0, 0, 0, 0), some (.laload, 1, 0, 0, 0, 0), some (.lconst 1, 1, 0, 0, 0, 0), some (.ladd, 1, 0, 0, 0, 0), some (.lastore, 1, 0, 0, 0, 0), some (.aload_n 0, 1, 0, 0, 0, 0), some (.invokevirtual 101, 3, 0, 160, 0, 1020), none, none, some (.iconst 1, 1, 0, 0, 0, 0), some (.istore 4, 2, 0, 0, 0, 0), none, some (.iload_n 3, 1, 0, 0, 0, 0), some (.iconst 3, 1, 0, 0, 0, 0), some (.if_icmp .ne 29, 3, 0, 0, 0, 0), none, none, some (.aload_n 0, 1, 0, 0, 0, 0), some (.getfield 7, 3, 0, 11, 0, 868), none, none, some (.bipush 11, 2, 0, 0, 0, 0), none, some (.laload, 1, 0, 0, 0, 0), some (.ldc2_w 97, 3, 0, 4, 0, 988), none, none, some (.aload_n 0, 1, 0, 0, 0, 0), some (.getfield 7, 3, 0, 11, 0, 868), none, none, some (.bipush 6, 2, 0, 0, 0, 0), none, some (.laload, 1, 0, 0, 0, 0), some (.lmul, 1, 0, 0, 0, 0), some (.lcmp, 1, 0, 0, 0, 0), some (.ifCond .lt 7, 3, 0, 0, 0, 0), none, none, some (.aload_n 0, 1, 0, 0, 0, 0), some (.invokevirtual 91, 3, 0, 155, 0, 959), none, none, some (.iload 4, 2, 0, 0, 0, 0), none, some (.ireturn, 1, 0, 0, 0, 0)]
def xk_162 : List (Option xQ) := [some (.iconst 0, 1, 0, 0, 0, 0), some (.istore_n 2, 1, 0, 0, 0, 0), some (.iconst 0, 1, 0, 0, 0, 0), some (.istore_n 3, 1, 0, 0, 0, 0), some (.iload_n 3, 1, 0, 0, 0, 0), some (.iload_n 1, 1, 0, 0, 0, 0), some (.if_icmp .ge 16, 3, 0, 0, 0, 0), none, none, some (.iload_n 2, 1, 0, 0, 0, 0), some (.aload_n 0, 1, 0, 0, 0, 0), some (.invokevirtual 104, 3, 0, 161, 0, 1016), none, none, some (.iadd, 1, 0, 0, 0, 0), some (.istore_n 2, 1, 0, 0, 0, 0), some (.iinc 3 1, 3, 0, 0, 0, 0), none, none, some (.goto (-15), 3, 0, 0, 0, 0), none, none, some (.iload_n 2, 1, 0, 0, 0, 0), some (.ireturn, 1, 0, 0, 0, 0)]
def xk_163 : List (Option xQ) := [some (.iload_n 1, 1, 0, 0, 0, 0), some (.iconst 0, 1, 0, 0, 0, 0), some (.bipush 23, 2, 0, 0, 0, 0), none, some (.invokestatic 40, 3, 0, 138, 0, 1001), none, none, some (.ifCond .eq 17, 3, 0, 0, 0, 0), none, none, some (.iload_n 2, 1, 0, 0, 0, 0), some (.iconst 1, 1, 0, 0, 0, 0), some (.bipush 99, 2, 0, 0, 0, 0), none, some (.invokestatic 40, 3, 0, 138, 0, 1001), none, none, some (.ifCond .eq 7, 3, 0, 0, 0, 0), none, none, some (.iconst 1, 1, 0, 0, 0, 0), some (.goto 4, 3, 0, 0, 0, 0), none, none, some (.iconst 0, 1, 0, 0, 0, 0), some (.istore_n 3, 1, 0, 0, 0, 0), some (.iload_n 3, 1, 0, 0, 0, 0), some (.ifCond .ne 7, 3, 0, 0, 0, 0), none, none, some (.iconst (-1), 1, 0, 0, 0, 0), some (.goto 16, 3, 0, 0, 0, 0), none, none, some (.aload_n 0, 1, 0, 0, 0, 0), some (.invokevirtual 84, 3, 0, 148, 0, 905), none, none, some (.ifCond .eq 7, 3, 0, 0, 0, 0), none, none, some (.iconst 0, 1, 0, 0, 0, 0), some (.goto 5, 3, 0, 0, 0, 0), none, none, some (.bipush (-2), 2, 0, 0, 0, 0), none, some (.ireturn, 1, 0, 0, 0, 0)]
def xk_164 : List (Option xQ) := [some (.aload_n 0, 1, 0, 0, 0, 0), some (.iconst 0, 1, 0, 0, 0, 0), some (.invokevirtual 36, 3, 0, 139, 0, 909), none, none, some (.iconst 1, 1, 0, 0, 0, 0), some (.if_icmp .ne 14, 3, 0, 0, 0, 0), none, none, some (.aload_n 0, 1, 0, 0, 0, 0), some (.bipush 11, 2, 0, 0, 0, 0), none, some (.invokevirtual 36, 3, 0, 139, 0, 909), none, none, some (.iconst 2, 1, 0, 0, 0, 0), some (.idiv, 1, 0, 0, 0, 0), some (.goto 27, 3, 0, 0, 0, 0), none, none, some (.aload_n 0, 1, 0, 0, 0, 0), some (.bipush 12, 2, 0, 0, 0, 0), none, some (.invokevirtual 36, 3, 0, 139, 0, 909), none, none, some (.aload_n 0, 1, 0, 0, 0, 0), some (.bipush 11, 2, 0, 0, 0, 0), none, some (.invokevirtual 36, 3, 0, 139, 0, 909), none, none, some (.iadd, 1, 0, 0, 0, 0), some (.iconst 2, 1, 0, 0, 0, 0), some (.idiv, 1, 0, 0, 0, 0), some (.iconst 2, 1, 0, 0, 0, 0), some (.aload_n 0, 1, 0, 0, 0, 0), some (.bipush 6, 2, 0, 0, 0, 0), none, some (.invokevirtual 36, 3, 0, 139, 0, 909), none, none, some (.imul, 1, 0, 0, 0, 0), some (.irem, 1, 0, 0, 0, 0), some (.istore_n 3, 1, 0, 0, 0, 0), some (.iload_n 1, 1, 0, 0, 0, 0), some (.bipush 12, 2, 0, 0, 0, 0), none, some (.aload_n 0, 1, 0, 0, 0, 0), some (.iconst 2, 1, 0, 0, 0, 0), some (.invokevirtual 36, 3, 0, 139, 0, 909), none, none, some (.imul, 1, 0, 0, 0, 0), some (.iadd, 1, 0, 0, 0, 0), some (.istore 4, 2, 0, 0, 0, 0), none, some (.aload_n 0, 1, 0, 0, 0, 0), some (.bipush 6, 2, 0, 0, 0, 0), none, some (.iload_n 3, 1, 0, 0, 0, 0), some (.iload 4, 2, 0, 0, 0, 0), none, some (.invokevirtual 55, 3, 0, 141, 0, 937), none, none, some (.iload_n 2, 1, 0, 0, 0, 0), some (.invokestatic 59, 3, 0, 144, 0, 942), none, none, some (.istore 5, 2, 0, 0, 0, 0), none, some (.aload_n 0, 1, 0, 0, 0, 0), some (.bipush 6, 2, 0, 0, 0, 0), none, some (.iload_n 3, 1, 0, 0, 0, 0), some (.iload 4, 2, 0, 0, 0, 0), none, some (.iload 5, 2, 0, 0, 0, 0), none, some (.invokevirtual 63, 3, 0, 142, 0, 945), none, none, some (.iload 5, 2, 0, 0, 0, 0), none, some (.ireturn, 1, 0, 0, 0, 0)]
def xk_165 : List (Option xQ) := [some (.aload_n 0, 1, 0, 0, 0, 0), some (.invokevirtual 84, 3, 0, 148, 0, 905), none, none, some (.ifCond .ne 13, 3, 0, 0, 0, 0), none, none, some (.aload_n 0, 1, 0, 0, 0, 0), some (.bipush 7, 2, 0, 0, 0, 0), none, some (.invokevirtual 36, 3, 0, 139, 0, 909), none, none, some (.iconst 2, 1, 0, 0, 0, 0), some (.if_icmp .ge 8, 3, 0, 0, 0, 0), none, none, some (.bipush (-2), 2, 0, 0, 0, 0), none, some (.goto 4, 3, 0, 0, 0, 0), none, none, some (.iconst 0, 1, 0, 0, 0, 0), some (.ireturn, 1, 0, 0, 0, 0)]
def xk_166 : List (Option xQ) := [some (.aload_n 0, 1, 0, 0, 0, 0), some (.invokevirtual 80, 3, 0, 147, 0, 963), none, none, some (.istore_n 1, 1, 0, 0, 0, 0), some (.aload_n 0, 1, 0, 0, 0, 0), some (.getfield 7, 3, 0, 11, 0, 868), none, none, some (.bipush 7, 2, 0, 0, 0, 0), none, some (.dup2, 1, 0, 0, 0, 0), some (.laload, 1, 0, 0, 0, 0), some (.lconst 1, 1, 0, 0, 0, 0), some (.lsub, 1, 0, 0, 0, 0), some (.lastore, 1, 0, 0, 0, 0), some (.aload_n 0, 1, 0, 0, 0, 0), some (.getfield 7, 3, 0, 11, 0, 868), none, none, some (.bipush 8, 2, 0, 0, 0, 0), none, some (.dup2, 1, 0, 0, 0, 0), some (.laload, 1, 0, 0, 0, 0), some (.lconst 1, 1, 0, 0, 0, 0), some (.ladd, 1, 0, 0, 0, 0), some (.lastore, 1, 0, 0, 0, 0), some (.aload_n 0, 1, 0, 0, 0, 0), some (.invokevirtual 80, 3, 0, 147, 0, 963), none, none, some (.iload_n 1, 1, 0, 0, 0, 0), some (.if_icmp .ge 19, 3, 0, 0, 0, 0), none, none, some (.aload_n 0, 1, 0, 0, 0, 0), some (.getfield 7, 3, 0, 11, 0, 868), none, none, some (.iconst 1, 1, 0, 0, 0, 0), some (.dup2, 1, 0, 0, 0, 0), some (.laload, 1, 0, 0, 0, 0), some (.iconst 2, 1, 0, 0, 0, 0), some (.aload_n 0, 1, 0, 0, 0, 0), some (.invokevirtual 80, 3, 0, 147, 0, 963), none, none, some (.imul, 1, 0, 0, 0, 0), some (.i2l, 1, 0, 0, 0, 0), some (.lrem, 1, 0, 0, 0, 0), some (.lastore, 1, 0, 0, 0, 0), some (.return_, 1, 0, 0, 0, 0)]
def xk_167 : List (Option xQ) := [some (.aload_n 0, 1, 0, 0, 0, 0), some (.invokevirtual 84, 3, 0, 148, 0, 905), none, none, some (.ifCond .ne 12, 3, 0, 0, 0, 0), none, none, some (.aload_n 0, 1, 0, 0, 0, 0), some (.bipush 8, 2, 0, 0, 0, 0), none, some (.invokevirtual 36, 3, 0, 139, 0, 909), none, none, some (.ifCond .ne 8, 3, 0, 0, 0, 0), none, none, some (.bipush (-2), 2, 0, 0, 0, 0), none, some (.goto 4, 3, 0, 0, 0, 0), none, none, some (.iconst 0, 1, 0, 0, 0, 0), some (.ireturn, 1, 0, 0, 0, 0)]
def xk_168 : List (Option xQ) := [some (.aload_n 0, 1, 0, 0, 0, 0), some (.getfield 7, 3, 0, 11, 0, 868), none, none, some (.bipush 7, 2, 0, 0, 0, 0), none, some (.dup2, 1, 0, 0, 0, 0), some (.laload, 1, 0, 0, 0, 0), some (.lconst 1, 1, 0, 0, 0, 0), some (.ladd, 1, 0, 0, 0, 0), some (.lastore, 1, 0, 0, 0, 0), some (.aload_n 0, 1, 0, 0, 0, 0), some (.getfield 7, 3, 0, 11, 0, 868), none, none, some (.bipush 8, 2, 0, 0, 0, 0), none, some (.dup2, 1, 0, 0, 0, 0), some (.laload, 1, 0, 0, 0, 0), some (.lconst 1, 1, 0, 0, 0, 0), some (.lsub, 1, 0, 0, 0, 0), some (.lastore, 1, 0, 0, 0, 0), some (.return_, 1, 0, 0, 0, 0)]
def xk_169 : List (Option xQ) := [some (.aload_n 0, 1, 0, 0, 0, 0), some (.invokevirtual 107, 3, 0, 156, 0, 901), none, none, some (.istore_n 1, 1, 0, 0, 0, 0), some (.iload_n 1, 1, 0, 0, 0, 0), some (.ifCond .ge 5, 3, 0, 0, 0, 0), none, none, some (.iload_n 1, 1, 0, 0, 0, 0), some (.ireturn, 1, 0, 0, 0, 0), some (.aload_n 0, 1, 0, 0, 0, 0), some (.invokevirtual 110, 3, 0, 140, 0, 913), none, none, some (.aload_n 0, 1, 0, 0, 0, 0), some (.invokevirtual 113, 3, 0, 157, 0, 917), none, none, some (.aload_n 0, 1, 0, 0, 0, 0), some (.iconst 0, 1, 0, 0, 0, 0), some (.invokevirtual 36, 3, 0, 139, 0, 909), none, none, some (.ireturn, 1, 0, 0, 0, 0)]
def xk_170 : List (Option xQ) := [some (.aload_n 0, 1, 0, 0, 0, 0), some (.invokevirtual 116, 3, 0, 158, 0, 980), none, none, some (.ifCond .ge 6, 3, 0, 0, 0, 0), none, none, some (.bipush (-2), 2, 0, 0, 0, 0), none, some (.ireturn, 1, 0, 0, 0, 0), some (.aload_n 0, 1, 0, 0, 0, 0), some (.invokevirtual 110, 3, 0, 140, 0, 913), none, none, some (.aload_n 0, 1, 0, 0, 0, 0), some (.invokevirtual 119, 3, 0, 159, 0, 984), none, none, some (.aload_n 0, 1, 0, 0, 0, 0), some (.iconst 0, 1, 0, 0, 0, 0), some (.invokevirtual 36, 3, 0, 139, 0, 909), none, none, some (.ireturn, 1, 0, 0, 0, 0)]
def xk_171 : List (Option xQ) := [some (.aload_n 0, 1, 0, 0, 0, 0), some (.iconst 0, 1, 0, 0, 0, 0), some (.invokevirtual 36, 3, 0, 139, 0, 909), none, none, some (.ifCond .ne 6, 3, 0, 0, 0, 0), none, none, some (.bipush (-2), 2, 0, 0, 0, 0), none, some (.ireturn, 1, 0, 0, 0, 0), some (.aload_n 0, 1, 0, 0, 0, 0), some (.invokevirtual 110, 3, 0, 140, 0, 913), none, none, some (.aload_n 0, 1, 0, 0, 0, 0), some (.bipush 7, 2, 0, 0, 0, 0), none, some (.invokevirtual 36, 3, 0, 139, 0, 909), none, none, some (.istore_n 1, 1, 0, 0, 0, 0), some (.aload_n 0, 1, 0, 0, 0, 0), some (.invokevirtual 77, 3, 0, 149, 0, 954), none, none, some (.aload_n 0, 1, 0, 0, 0, 0), some (.invokevirtual 74, 3, 0, 151, 0, 950), none, none, some (.aload_n 0, 1, 0, 0, 0, 0), some (.getfield 7, 3, 0, 11, 0, 868), none, none, some (.iconst 0, 1, 0, 0, 0, 0), some (.lconst 0, 1, 0, 0, 0, 0), some (.lastore, 1, 0, 0, 0, 0), some (.aload_n 0, 1, 0, 0, 0, 0), some (.getfield 7, 3, 0, 11, 0, 868), none, none, some (.bipush 7, 2, 0, 0, 0, 0), none, some (.lconst 0, 1, 0, 0, 0, 0), some (.lastore, 1, 0, 0, 0, 0), some (.aload_n 0, 1, 0, 0, 0, 0), some (.getfield 7, 3, 0, 11, 0, 868), none, none, some (.bipush 8, 2, 0, 0, 0, 0), none, some (.lconst 0, 1, 0, 0, 0, 0), some (.lastore, 1, 0, 0, 0, 0), some (.aload_n 0, 1, 0, 0, 0, 0), some (.getfield 7, 3, 0, 11, 0, 868), none, none, some (.bipush 6, 2, 0, 0, 0, 0), none, some (.lconst 0, 1, 0, 0, 0, 0), some (.lastore, 1, 0, 0, 0, 0), some (.iload_n 1, 1, 0, 0, 0, 0), some (.ireturn, 1, 0, 0, 0, 0)]
def xk_172 : List (Option xQ) := [some (.aload_n 0, 1, 0, 0, 0, 0), some (.iload_n 1, 1, 0, 0, 0, 0), some (.iload_n 2, 1, 0, 0, 0, 0), some (.invokevirtual 122, 3, 0, 163, 0, 997), none, none, some (.istore_n 3, 1, 0, 0, 0, 0), some (.iload_n 3, 1, 0, 0, 0, 0), some (.ifCond .ge 5, 3, 0, 0, 0, 0), none, none, some (.iload_n 3, 1, 0, 0, 0, 0), some (.ireturn, 1, 0, 0, 0, 0), some (.aload_n 0, 1, 0, 0, 0, 0), some (.invokevirtual 110, 3, 0, 140, 0, 913), none, none, some (.aload_n 0, 1, 0, 0, 0, 0), some (.iload_n 1, 1, 0, 0, 0, 0), some (.iload_n 2, 1, 0, 0, 0, 0), some (.invokevirtual 125, 3, 0, 164, 0, 1004), none, none, some (.ireturn, 1, 0, 0, 0, 0)]
def xk_173 : List (Option xQ) := [some (.iload_n 1, 1, 0, 0, 0, 0), some (.iconst 1, 1, 0, 0, 0, 0), some (.bipush 99, 2, 0, 0, 0, 0), none, some (.invokestatic 40, 3, 0, 138, 0, 1001), none, none, some (.ifCond .ne 5, 3, 0, 0, 0, 0), none, none, some (.iconst (-1), 1, 0, 0, 0, 0), some (.ireturn, 1, 0, 0, 0, 0), some (.aload_n 0, 1, 0, 0, 0, 0), some (.invokevirtual 110, 3, 0, 140, 0, 913), none, none, some (.aload_n 0, 1, 0, 0, 0, 0), some (.iload_n 1, 1, 0, 0, 0, 0), some (.invokevirtual 128, 3, 0, 162, 0, 1012), none, none, some (.ireturn, 1, 0, 0, 0, 0)]
def xk_174 : List (Option xQ) := [some (.aload_n 0, 1, 0, 0, 0, 0), some (.invokevirtual 131, 3, 0, 165, 0, 1029), none, none, some (.ifCond .ge 6, 3, 0, 0, 0, 0), none, none, some (.bipush (-2), 2, 0, 0, 0, 0), none, some (.ireturn, 1, 0, 0, 0, 0), some (.aload_n 0, 1, 0, 0, 0, 0), some (.invokevirtual 110, 3, 0, 140, 0, 913), none, none, some (.aload_n 0, 1, 0, 0, 0, 0), some (.invokevirtual 134, 3, 0, 166, 0, 1033), none, none, some (.aload_n 0, 1, 0, 0, 0, 0), some (.bipush 7, 2, 0, 0, 0, 0), none, some (.invokevirtual 36, 3, 0, 139, 0, 909), none, none, some (.ireturn, 1, 0, 0, 0, 0)]
def xk_175 : List (Option xQ) := [some (.aload_n 0, 1, 0, 0, 0, 0), some (.invokevirtual 137, 3, 0, 167, 0, 1041), none, none, some (.ifCond .ge 6, 3, 0, 0, 0, 0), none, none, some (.bipush (-2), 2, 0, 0, 0, 0), none, some (.ireturn, 1, 0, 0, 0, 0), some (.aload_n 0, 1, 0, 0, 0, 0), some (.invokevirtual 110, 3, 0, 140, 0, 913), none, none, some (.aload_n 0, 1, 0, 0, 0, 0), some (.invokevirtual 140, 3, 0, 168, 0, 1045), none, none, some (.aload_n 0, 1, 0, 0, 0, 0), some (.bipush 7, 2, 0, 0, 0, 0), none, some (.invokevirtual 36, 3, 0, 139, 0, 909), none, none, some (.ireturn, 1, 0, 0, 0, 0)]
def xk_176 : List (Option xQ) := [some (.aload_n 0, 1, 0, 0, 0, 0), some (.iload_n 1, 1, 0, 0, 0, 0), some (.invokevirtual 143, 3, 0, 145, 0, 1053), none, none, some (.ifCond .ne 5, 3, 0, 0, 0, 0), none, none, some (.iconst (-1), 1, 0, 0, 0, 0), some (.ireturn, 1, 0, 0, 0, 0), some (.aload_n 0, 1, 0, 0, 0, 0), some (.invokevirtual 110, 3, 0, 140, 0, 913), none, none, some (.aload_n 0, 1, 0, 0, 0, 0), some (.getfield 7, 3, 0, 11, 0, 868), none, none, some (.bipush 20, 2, 0, 0, 0, 0), none, some (.iload_n 1, 1, 0, 0, 0, 0), some (.iadd, 1, 0, 0, 0, 0), some (.lconst 1, 1, 0, 0, 0, 0), some (.aload_n 0, 1, 0, 0, 0, 0), some (.getfield 7, 3, 0, 11, 0, 868), none, none, some (.bipush 20, 2, 0, 0, 0, 0), none, some (.iload_n 1, 1, 0, 0, 0, 0), some (.iadd, 1, 0, 0, 0, 0), some (.laload, 1, 0, 0, 0, 0), some (.lsub, 1, 0, 0, 0, 0), some (.lastore, 1, 0, 0, 0, 0), some (.aload_n 0, 1, 0, 0, 0, 0), some (.bipush 20, 2, 0, 0, 0, 0), none, some (.iload_n 1, 1, 0, 0, 0, 0), some (.iadd, 1, 0, 0, 0, 0), some (.invokevirtual 36, 3, 0, 139, 0, 909), none, none, some (.ireturn, 1, 0, 0, 0, 0)]
def xk_177 : List (Option xQ) := [some (.aload_n 0, 1, 0, 0, 0, 0), some (.invokevirtual 110, 3, 0, 140, 0, 913), none, none, some (.aload_n 0, 1, 0, 0, 0, 0), some (.getfield 7, 3, 0, 11, 0, 868), none, none, some (.iconst 2, 1, 0, 0, 0, 0), some (.lconst 1, 1, 0, 0, 0, 0), some (.aload_n 0, 1, 0, 0, 0, 0), some (.getfield 7, 3, 0, 11, 0, 868), none, none, some (.iconst 2, 1, 0, 0, 0, 0), some (.laload, 1, 0, 0, 0, 0), some (.lsub, 1, 0, 0, 0, 0), some (.lastore, 1, 0, 0, 0, 0), some (.aload_n 0, 1, 0, 0, 0, 0), some (.iconst 2, 1, 0, 0, 0, 0), some (.invokevirtual 36, 3, 0, 139, 0, 909), none, none, some (.ireturn, 1, 0, 0, 0, 0)]
def xk_178 : List (Option xQ) := [some (.iload_n 1, 1, 0, 0, 0, 0), some (.ifCond .ne 13, 3, 0, 0, 0, 0), none, none, some (.iload_n 2, 1, 0, 0, 0, 0), some (.iconst 2, 1, 0, 0, 0, 0), some (.bipush 16, 2, 0, 0, 0, 0), none, some (.invokestatic 40, 3, 0, 138, 0, 1001), none, none, some (.goto 38, 3, 0, 0, 0, 0), none, none, some (.iload_n 1, 1, 0, 0, 0, 0), some (.iconst 1, 1, 0, 0, 0, 0), some (.if_icmp .ne 13, 3, 0, 0, 0, 0), none, none, some (.iload_n 2, 1, 0, 0, 0, 0), some (.iconst 0, 1, 0, 0, 0, 0), some (.bipush 8, 2, 0, 0, 0, 0), none, some (.invokestatic 40, 3, 0, 138, 0, 1001), none, none, some (.goto 23, 3, 0, 0, 0, 0), none, none, some (.iload_n 1, 1, 0, 0, 0, 0), some (.iconst 2, 1, 0, 0, 0, 0), some (.if_icmp .ne 17, 3, 0, 0, 0, 0), none, none, some (.iload_n 2, 1, 0, 0, 0, 0), some (.iconst 0, 1, 0, 0, 0, 0), some (.bipush 100, 2, 0, 0, 0, 0), none, some (.invokestatic 40, 3, 0, 138, 0, 1001), none, none, some (.ifCond .eq 7, 3, 0, 0, 0, 0), none, none, some (.iconst 1, 1, 0, 0, 0, 0), some (.goto 4, 3, 0, 0, 0, 0), none, none, some (.iconst 0, 1, 0, 0, 0, 0), some (.istore_n 3, 1, 0, 0, 0, 0), some (.iload_n 3, 1, 0, 0, 0, 0), some (.ifCond .ne 5, 3, 0, 0, 0, 0), none, none, some (.iconst (-1), 1, 0, 0, 0, 0), some (.ireturn, 1, 0, 0, 0, 0), some (.aload_n 0, 1, 0, 0, 0, 0), some (.invokevirtual 110, 3, 0, 140, 0, 913), none, none, some (.aload_n 0, 1, 0, 0, 0, 0), some (.iconst 3, 1, 0, 0, 0, 0), some (.iload_n 1, 1, 0, 0, 0, 0), some (.iadd, 1, 0, 0, 0, 0), some (.invokevirtual 36, 3, 0, 139, 0, 909), none, none, some (.istore 4, 2, 0, 0, 0, 0), none, some (.aload_n 0, 1, 0, 0, 0, 0), some (.getfield 7, 3, 0, 11, 0, 868), none, none, some (.iconst 3, 1, 0, 0, 0, 0), some (.iload_n 1, 1, 0, 0, 0, 0), some (.iadd, 1, 0, 0, 0, 0), some (.iload_n 2, 1, 0, 0, 0, 0), some (.i2l, 1, 0, 0, 0, 0), some (.lastore, 1, 0, 0, 0, 0), some (.iload 4, 2, 0, 0, 0, 0), none, some (.ireturn, 1, 0, 0, 0, 0)]
def xk_179 : List (Option xQ) := [some (.iload_n 1, 1, 0, 0, 0, 0), some (.bipush 33, 2, 0, 0, 0, 0), none, some (.bipush 126, 2, 0, 0, 0, 0), none, some (.invokestatic 40, 3, 0, 138, 0, 1001), none, none, some (.ifCond .ne 5, 3, 0, 0, 0, 0), none, none, some (.iconst (-1), 1, 0, 0, 0, 0), some (.ireturn, 1, 0, 0, 0, 0), some (.aload_n 0, 1, 0, 0, 0, 0), some (.getfield 147, 3, 0, 11, 6, 874), none, none, some (.bipush 60, 2, 0, 0, 0, 0), none, some (.if_icmp .ne 6, 3, 0, 0, 0, 0), none, none, some (.bipush (-3), 2, 0, 0, 0, 0), none, some (.ireturn, 1, 0, 0, 0, 0), some (.aload_n 0, 1, 0, 0, 0, 0), some (.getfield 19, 3, 0, 11, 5, 873), none, none, some (.aload_n 0, 1, 0, 0, 0, 0), some (.getfield 147, 3, 0, 11, 6, 874), none, none, some (.iload_n 1, 1, 0, 0, 0, 0), some (.iastore, 1, 0, 0, 0, 0), some (.aload_n 0, 1, 0, 0, 0, 0), some (.dup, 1, 0, 0, 0, 0), some (.getfield 147, 3, 0, 11, 6, 874), none, none, some (.iconst 1, 1, 0, 0, 0, 0), some (.iadd, 1, 0, 0, 0, 0), some (.putfield 147, 3, 0, 11, 6, 874), none, none, some (.aload_n 0, 1, 0, 0, 0, 0), some (.getfield 147, 3, 0, 11, 6, 874), none, none, some (.ireturn, 1, 0, 0, 0, 0)]
def xk_180 : List (Option xQ) := [some (.aload_n 0, 1, 0, 0, 0, 0), some (.getfield 147, 3, 0, 11, 6, 874), none, none, some (.istore_n 1, 1, 0, 0, 0, 0), some (.aload_n 0, 1, 0, 0, 0, 0), some (.iconst 0, 1, 0, 0, 0, 0), some (.putfield 147, 3, 0, 11, 6, 874), none, none, some (.iload_n 1, 1, 0, 0, 0, 0), some (.ireturn, 1, 0, 0, 0, 0)]
def xk_181 : List (Option xQ) := [some (.iload_n 1, 1, 0, 0, 0, 0), some (.aload_n 0, 1, 0, 0, 0, 0), some (.getfield 147, 3, 0, 11, 6, 874), none, none, some (.if_icmp .ge 12, 3, 0, 0, 0, 0), none, none, some (.aload_n 0, 1, 0, 0, 0, 0), some (.getfield 19, 3, 0, 11, 5, 873), none, none, some (.iload_n 1, 1, 0, 0, 0, 0), some (.iaload, 1, 0, 0, 0, 0), some (.goto 4, 3, 0, 0, 0, 0), none, none, some (.iconst (-1), 1, 0, 0, 0, 0), some (.ireturn, 1, 0, 0, 0, 0)]
def xk_182 : List (Option xQ) := [some (.aload_n 0, 1, 0, 0, 0, 0), some (.iload_n 1, 1, 0, 0, 0, 0), some (.invokevirtual 150, 3, 0, 181, 0, 1085), none, none, some (.bipush 48, 2, 0, 0, 0, 0), none, some (.bipush 57, 2, 0, 0, 0, 0), none, some (.invokestatic 40, 3, 0, 138, 0, 1001), none, none, some (.ifCond .eq 14, 3, 0, 0, 0, 0), none, none, some (.aload_n 0, 1, 0, 0, 0, 0), some (.iload_n 1, 1, 0, 0, 0, 0), some (.invokevirtual 150, 3, 0, 181, 0, 1085), none, none, some (.bipush 48, 2, 0, 0, 0, 0), none, some (.isub, 1, 0, 0, 0, 0), some (.goto 4, 3, 0, 0, 0, 0), none, none, some (.iconst (-1), 1, 0, 0, 0, 0), some (.ireturn, 1, 0, 0, 0, 0)]
def xk_183 : List (Option xQ) := [some (.iload_n 1, 1, 0, 0, 0, 0), some (.ifCond .ge 5, 3, 0, 0, 0, 0), none, none, some (.iload_n 1, 1, 0, 0, 0, 0), some (.ireturn, 1, 0, 0, 0, 0), some (.aload_n 0, 1, 0, 0, 0, 0), some (.iload_n 1, 1, 0, 0, 0, 0), some (.invokevirtual 153, 3, 0, 182, 0, 1093), none, none, some (.istore 4, 2, 0, 0, 0, 0), none, some (.iload 4, 2, 0, 0, 0, 0), none, some (.iload_n 2, 1, 0, 0, 0, 0), some (.if_icmp .ge 7, 3, 0, 0, 0, 0), none, none, some (.iconst (-1), 1, 0, 0, 0, 0), some (.iload_n 1, 1, 0, 0, 0, 0), some (.isub, 1, 0, 0, 0, 0), some (.ireturn, 1, 0, 0, 0, 0), some (.iload_n 1, 1, 0, 0, 0, 0), some (.iconst 1, 1, 0, 0, 0, 0), some (.iadd, 1, 0, 0, 0, 0), some (.istore 5, 2, 0, 0, 0, 0), none, some (.iload 4, 2, 0, 0, 0, 0), none, some (.ifCond .le 48, 3, 0, 0, 0, 0), none, none, some (.aload_n 0, 1, 0, 0, 0, 0), some (.iload 5, 2, 0, 0, 0, 0), none, some (.invokevirtual 153, 3, 0, 182, 0, 1093), none, none, some (.ifCond .lt 39, 3, 0, 0, 0, 0), none, none, some (.bipush 10, 2, 0, 0, 0, 0), none, some (.iload 4, 2, 0, 0, 0, 0), none, some (.imul, 1, 0, 0, 0, 0), some (.aload_n 0, 1, 0, 0, 0, 0), some (.iload 5, 2, 0, 0, 0, 0), none, some (.invokevirtual 153, 3, 0, 182, 0, 1093), none, none, some (.iadd, 1, 0, 0, 0, 0), some (.iload_n 3, 1, 0, 0, 0, 0), some (.if_icmp .gt 23, 3, 0, 0, 0, 0), none, none, some (.bipush 10, 2, 0, 0, 0, 0), none, some (.iload 4, 2, 0, 0, 0, 0), none, some (.imul, 1, 0, 0, 0, 0), some (.aload_n 0, 1, 0, 0, 0, 0), some (.iload 5, 2, 0, 0, 0, 0), none, some (.invokevirtual 153, 3, 0, 182, 0, 1093), none, none, some (.iadd, 1, 0, 0, 0, 0), some (.istore 4, 2, 0, 0, 0, 0), none, some (.iinc 5 1, 3, 0, 0, 0, 0), none, none, some (.goto (-47), 3, 0, 0, 0, 0), none, none, some (.iload 5, 2, 0, 0, 0, 0), none, some (.ireturn, 1, 0, 0, 0, 0)]
def xk_184 : List (Option xQ) := [some (.iconst 0, 1, 0, 0, 0, 0), some (.istore_n 2, 1, 0, 0, 0, 0), some (.iload_n 1, 1, 0, 0, 0, 0), some (.istore_n 3, 1, 0, 0, 0, 0), some (.aload_n 0, 1, 0, 0, 0, 0), some (.iload_n 3, 1, 0, 0, 0, 0), some (.invokevirtual 153, 3, 0, 182, 0, 1093), none, none, some (.ifCond .lt 20, 3, 0, 0, 0, 0), none, none, some (.bipush 10, 2, 0, 0, 0, 0), none, some (.iload_n 2, 1, 0, 0, 0, 0), some (.imul, 1, 0, 0, 0, 0), some (.aload_n 0, 1, 0, 0, 0, 0), some (.iload_n 3, 1, 0, 0, 0, 0), some (.invokevirtual 153, 3, 0, 182, 0, 1093), none, none, some (.iadd, 1, 0, 0, 0, 0), some (.istore_n 2, 1, 0, 0, 0, 0), some (.iinc 3 1, 3, 0, 0, 0, 0), none, none, some (.goto (-22), 3, 0, 0, 0, 0), none, none, some (.iload_n 2, 1, 0, 0, 0, 0), some (.ireturn, 1, 0, 0, 0, 0)]
def xk_185 : List (Option xQ) := [some (.iload_n 1, 1, 0, 0, 0, 0), some (.ifCond .ge 7, 3, 0, 0, 0, 0), none, none, some (.iload_n 1, 1, 0, 0, 0, 0), some (.goto 21, 3, 0, 0, 0, 0), none, none, some (.aload_n 0, 1, 0, 0, 0, 0), some (.iload_n 1, 1, 0, 0, 0, 0), some (.invokevirtual 150, 3, 0, 181, 0, 1085), none, none, some (.iload_n 2, 1, 0, 0, 0, 0), some (.if_icmp .ne 9, 3, 0, 0, 0, 0), none, none, some (.iload_n 1, 1, 0, 0, 0, 0), some (.iconst 1, 1, 0, 0, 0, 0), some (.iadd, 1, 0, 0, 0, 0), some (.goto 6, 3, 0, 0, 0, 0), none, none, some (.iconst (-1), 1, 0, 0, 0, 0), some (.iload_n 1, 1, 0, 0, 0, 0), some (.isub, 1, 0, 0, 0, 0), some (.ireturn, 1, 0, 0, 0, 0)]
def xk_186 : List (Option xQ) := [some (.aload_n 0, 1, 0, 0, 0, 0), some (.iload_n 1, 1, 0, 0, 0, 0), some (.invokevirtual 150, 3, 0, 181, 0, 1085), none, none, some (.tableswitch 127 104 121 #[91, 127, 127, 127, 127, 127, 127, 127, 87, 127, 127, 87, 116, 127, 87, 127, 87, 87], 87, 0, 0, 0, 0), none, none, none, none, none, none, none, none, none, none, none, none, none, none, none, none, none, none, none, none, none, none, none, none, none, none, none, none, none, none, none, none, none, none, none, none, none, none, none, none, none, none, none, none, none, none, none, none, none, none, none, none, none, none, none, none, none, none, none, none, none, none, none, none, none, none, none, none, none, none, none, none, none, none, none, none, none, none, none, none, none, none, none, none, none, none, some (.iload_n 1, 1, 0, 0, 0, 0), some (.iconst 1, 1, 0, 0, 0, 0), some (.iadd, 1, 0, 0, 0, 0), some (.ireturn, 1, 0, 0, 0, 0), some (.aload_n 0, 1, 0, 0, 0, 0), some (.aload_n 0, 1, 0, 0, 0, 0), some (.aload_n 0, 1, 0, 0, 0, 0), some (.iload_n 1, 1, 0, 0, 0, 0), some (.iconst 1, 1, 0, 0, 0, 0), some (.iadd, 1, 0, 0, 0, 0), some (.iconst 0, 1, 0, 0, 0, 0), some (.bipush 99, 2, 0, 0, 0, 0), none, some (.invokevirtual 156, 3, 0, 183, 0, 1089), none, none, some (.bipush 46, 2, 0, 0, 0, 0), none, some (.invokevirtual 159, 3, 0, 185, 0, 1097), none, none, some (.iconst 0, 1, 0, 0, 0, 0), some (.sipush 999, 3, 0, 0, 0, 0), none, none, some (.invokevirtual 156, 3, 0, 183, 0, 1089), none, none, some (.ireturn, 1, 0, 0, 0, 0), some (.aload_n 0, 1, 0, 0, 0, 0), some (.iload_n 1, 1, 0, 0, 0, 0), some (.iconst 1, 1, 0, 0, 0, 0), some (.iadd, 1, 0, 0, 0, 0), some (.iconst 1, 1, 0, 0, 0, 0), some (.bipush 99, 2, 0, 0, 0, 0), none, some (.invokevirtual 156, 3, 0, 183, 0, 1089), none, none, some (.ireturn, 1, 0, 0, 0, 0), some (.iconst (-1), 1, 0, 0, 0, 0), some (.iload_n 1, 1, 0, 0, 0, 0), some (.isub, 1, 0, 0, 0, 0), some (.ireturn, 1, 0, 0, 0, 0)]
def xk_187 : List (Option xQ) := [some (.iconst 0, 1, 0, 0, 0, 0), some (.istore_n 2, 1, 0, 0, 0, 0), some (.iconst 0, 1, 0, 0, 0, 0), some (.istore_n 3, 1, 0, 0, 0, 0), some (.iload_n 3, 1, 0, 0, 0, 0), some (.bipush 60, 2, 0, 0, 0, 0), none, some (.if_icmp .gt 79, 3, 0, 0, 0, 0), none, none, some (.iload_n 1, 1, 0, 0, 0, 0), some (.ifCond .ne 11, 3, 0, 0, 0, 0), none, none, some (.aload_n 0, 1, 0, 0, 0, 0), some (.iload_n 2, 1, 0, 0, 0, 0), some (.invokevirtual 162, 3, 0, 186, 0, 1081), none, none, some (.goto 11, 3, 0, 0, 0, 0), none, none, some (.aload_n 0, 1, 0, 0, 0, 0), some (.iload_n 2, 1, 0, 0, 0, 0), some (.iconst 0, 1, 0, 0, 0, 0), some (.bipush 35, 2, 0, 0, 0, 0), none, some (.invokevirtual 156, 3, 0, 183, 0, 1089), none, none, some (.istore 4, 2, 0, 0, 0, 0), none, some (.iload 4, 2, 0, 0, 0, 0), none, some (.ifCond .ge 8, 3, 0, 0, 0, 0), none, none, some (.iconst (-1), 1, 0, 0, 0, 0), some (.iload 4, 2, 0, 0, 0, 0), none, some (.isub, 1, 0, 0, 0, 0), some (.ireturn, 1, 0, 0, 0, 0), some (.iload 4, 2, 0, 0, 0, 0), none, some (.aload_n 0, 1, 0, 0, 0, 0), some (.getfield 147, 3, 0, 11, 6, 874), none, none, some (.if_icmp .ne 6, 3, 0, 0, 0, 0), none, none, some (.bipush (-4), 2, 0, 0, 0, 0), none, some (.ireturn, 1, 0, 0, 0, 0), some (.iload_n 1, 1, 0, 0, 0, 0), some (.ifCond .ne 8, 3, 0, 0, 0, 0), none, none, some (.iload 4, 2, 0, 0, 0, 0), none, some (.goto 11, 3, 0, 0, 0, 0), none, none, some (.aload_n 0, 1, 0, 0, 0, 0), some (.iload 4, 2, 0, 0, 0, 0), none, some (.bipush 44, 2, 0, 0, 0, 0), none, some (.invokevirtual 159, 3, 0, 185, 0, 1097), none, none, some (.istore_n 2, 1, 0, 0, 0, 0), some (.iload_n 2, 1, 0, 0, 0, 0), some (.ifCond .ge 7, 3, 0, 0, 0, 0), none, none, some (.iconst (-1), 1, 0, 0, 0, 0), some (.iload_n 2, 1, 0, 0, 0, 0), some (.isub, 1, 0, 0, 0, 0), some (.ireturn, 1, 0, 0, 0, 0), some (.iinc 3 1, 3, 0, 0, 0, 0), none, none, some (.goto (-79), 3, 0, 0, 0, 0), none, none, some (.bipush (-4), 2, 0, 0, 0, 0), none, some (.ireturn, 1, 0, 0, 0, 0)]
def xk_188 : List (Option xQ) := [some (.iload_n 1, 1, 0, 0, 0, 0), some (.iconst 0, 1, 0, 0, 0, 0), some (.iconst 1, 1, 0, 0, 0, 0), some (.invokestatic 40, 3, 0, 138, 0, 1001), none, none, some (.ifCond .eq 11, 3, 0, 0, 0, 0), none, none, some (.aload_n 0, 1, 0, 0, 0, 0), some (.iload_n 1, 1, 0, 0, 0, 0), some (.invokevirtual 165, 3, 0, 187, 0, 1077), none, none, some (.goto 4, 3, 0, 0, 0, 0), none, none, some (.iconst (-1), 1, 0, 0, 0, 0), some (.ireturn, 1, 0, 0, 0, 0)]
def xk_189 : List (Option xQ) := [some (.aload_n 0, 1, 0, 0, 0, 0), some (.iload_n 1, 1, 0, 0, 0, 0), some (.iconst 1, 1, 0, 0, 0, 0), some (.iadd, 1, 0, 0, 0, 0), some (.invokevirtual 168, 3, 0, 184, 0, 1109), none, none, some (.istore_n 2, 1, 0, 0, 0, 0), some (.iconst 0, 1, 0, 0, 0, 0), some (.istore_n 3, 1, 0, 0, 0, 0), some (.iconst 0, 1, 0, 0, 0, 0), some (.istore 4, 2, 0, 0, 0, 0), none, some (.aload_n 0, 1, 0, 0, 0, 0), some (.iload_n 1, 1, 0, 0, 0, 0), some (.invokevirtual 150, 3, 0, 181, 0, 1085), none, none, some (.lookupswitch 107 #[(104, 82), (112, 50), (115, 58), (120, 66), (121, 74)], 50, 0, 0, 0, 0), none, none, none, none, none, none, none, none, none, none, none, none, none, none, none, none, none, none, none, none, none, none, none, none, none, none, none, none, none, none, none, none, none, none, none, none, none, none, none, none, none, none, none, none, none, none, none, none, none, some (.aload_n 0, 1, 0, 0, 0, 0), some (.invokevirtual 107, 3, 0, 156, 0, 901), none, none, some (.istore_n 3, 1, 0, 0, 0, 0), some (.goto 54, 3, 0, 0, 0, 0), none, none, some (.aload_n 0, 1, 0, 0, 0, 0), some (.invokevirtual 116, 3, 0, 158, 0, 980), none, none, some (.istore_n 3, 1, 0, 0, 0, 0), some (.goto 46, 3, 0, 0, 0, 0), none, none, some (.aload_n 0, 1, 0, 0, 0, 0), some (.invokevirtual 131, 3, 0, 165, 0, 1029), none, none, some (.istore_n 3, 1, 0, 0, 0, 0), some (.goto 38, 3, 0, 0, 0, 0), none, none, some (.aload_n 0, 1, 0, 0, 0, 0), some (.invokevirtual 137, 3, 0, 167, 0, 1041), none, none, some (.istore_n 3, 1, 0, 0, 0, 0), some (.goto 30, 3, 0, 0, 0, 0), none, none, some (.aload_n 0, 1, 0, 0, 0, 0), some (.iload_n 2, 1, 0, 0, 0, 0), some (.aload_n 0, 1, 0, 0, 0, 0), some (.aload_n 0, 1, 0, 0, 0, 0), some (.iload_n 1, 1, 0, 0, 0, 0), some (.iconst 1, 1, 0, 0, 0, 0), some (.iadd, 1, 0, 0, 0, 0), some (.iconst 0, 1, 0, 0, 0, 0), some (.bipush 99, 2, 0, 0, 0, 0), none, some (.invokevirtual 156, 3, 0, 183, 0, 1089), none, none, some (.iconst 1, 1, 0, 0, 0, 0), some (.iadd, 1, 0, 0, 0, 0), some (.invokevirtual 168, 3, 0, 184, 0, 1109), none, none, some (.invokevirtual 122, 3, 0, 163, 0, 997), none, none, some (.istore_n 3, 1, 0, 0, 0, 0), some (.goto 5, 3, 0, 0, 0, 0), none, none, some (.iconst 0, 1, 0, 0, 0, 0), some (.istore_n 3, 1, 0, 0, 0, 0), some (.iload_n 3, 1, 0, 0, 0, 0), some (.ifCond .ne 11, 3, 0, 0, 0, 0), none, none, some (.aload_n 0, 1, 0, 0, 0, 0), some (.iload_n 1, 1, 0, 0, 0, 0), some (.iload_n 2, 1, 0, 0, 0, 0), some (.invokevirtual 171, 3, 0, 190, 0, 1113), none, none, some (.istore 4, 2, 0, 0, 0, 0), none, some (.iload_n 3, 1, 0, 0, 0, 0), some (.ireturn, 1, 0, 0, 0, 0)]
def xk_190 : List (Option xQ) := [some (.aload_n 0, 1, 0, 0, 0, 0), some (.iload_n 1, 1, 0, 0, 0, 0), some (.invokevirtual 150, 3, 0, 181, 0, 1085), none, none, some (.tableswitch 139 104 121 #[111, 139, 139, 139, 139, 139, 139, 139, 87, 139, 139, 93, 133, 139, 139, 139, 99, 105], 87, 0, 0, 0, 0), none, none, none, none, none, none, none, none, none, none, none, none, none, none, none, none, none, none, none, none, none, none, none, none, none, none, none, none, none, none, none, none, none, none, none, none, none, none, none, none, none, none, none, none, none, none, none, none, none, none, none, none, none, none, none, none, none, none, none, none, none, none, none, none, none, none, none, none, none, none, none, none, none, none, none, none, none, none, none, none, none, none, none, none, none, none, some (.aload_n 0, 1, 0, 0, 0, 0), some (.invokevirtual 113, 3, 0, 157, 0, 917), none, none, some (.iconst 0, 1, 0, 0, 0, 0), some (.ireturn, 1, 0, 0, 0, 0), some (.aload_n 0, 1, 0, 0, 0, 0), some (.invokevirtual 119, 3, 0, 159, 0, 984), none, none, some (.iconst 0, 1, 0, 0, 0, 0), some (.ireturn, 1, 0, 0, 0, 0), some (.aload_n 0, 1, 0, 0, 0, 0), some (.invokevirtual 134, 3, 0, 166, 0, 1033), none, none, some (.iconst 0, 1, 0, 0, 0, 0), some (.ireturn, 1, 0, 0, 0, 0), some (.aload_n 0, 1, 0, 0, 0, 0), some (.invokevirtual 140, 3, 0, 168, 0, 1045), none, none, some (.iconst 0, 1, 0, 0, 0, 0), some (.ireturn, 1, 0, 0, 0, 0), some (.aload_n 0, 1, 0, 0, 0, 0), some (.iload_n 2, 1, 0, 0, 0, 0), some (.aload_n 0, 1, 0, 0, 0, 0), some (.aload_n 0, 1, 0, 0, 0, 0), some (.iload_n 1, 1, 0, 0, 0, 0), some (.iconst 1, 1, 0, 0, 0, 0), some (.iadd, 1, 0, 0, 0, 0), some (.iconst 0, 1, 0, 0, 0, 0), some (.bipush 99, 2, 0, 0, 0, 0), none, some (.invokevirtual 156, 3, 0, 183, 0, 1089), none, none, some (.iconst 1, 1, 0, 0, 0, 0), some (.iadd, 1, 0, 0, 0, 0), some (.invokevirtual 168, 3, 0, 184, 0, 1109), none, none, some (.invokevirtual 125, 3, 0, 164, 0, 1004), none, none, some (.ireturn, 1, 0, 0, 0, 0), some (.aload_n 0, 1, 0, 0, 0, 0), some (.iload_n 2, 1, 0, 0, 0, 0), some (.invokevirtual 128, 3, 0, 162, 0, 1012), none, none, some (.ireturn, 1, 0, 0, 0, 0), some (.aload_n 0, 1, 0, 0, 0, 0), some (.getfield 7, 3, 0, 11, 0, 868), none, none, some (.iconst 2, 1, 0, 0, 0, 0), some (.lconst 1, 1, 0, 0, 0, 0), some (.aload_n 0, 1, 0, 0, 0, 0), some (.getfield 7, 3, 0, 11, 0, 868), none, none, some (.iconst 2, 1, 0, 0, 0, 0), some (.laload, 1, 0, 0, 0, 0), some (.lsub, 1, 0, 0, 0, 0), some (.lastore, 1, 0, 0, 0, 0), some (.iconst 0, 1, 0, 0, 0, 0), some (.ireturn, 1, 0, 0, 0, 0)]
def xk_191 : List (Option xQ) := [some (.aload_n 0, 1, 0, 0, 0, 0), some (.iconst 0, 1, 0, 0, 0, 0), some (.invokevirtual 165, 3, 0, 187, 0, 1077), none, none, some (.bipush (-4), 2, 0, 0, 0, 0), none, some (.if_icmp .eq 6, 3, 0, 0, 0, 0), none, none, some (.bipush (-2), 2, 0, 0, 0, 0), none, some (.ireturn, 1, 0, 0, 0, 0), some (.aload_n 0, 1, 0, 0, 0, 0), some (.invokevirtual 110, 3, 0, 140, 0, 913), none, none, some (.iconst 0, 1, 0, 0, 0, 0), some (.istore_n 1, 1, 0, 0, 0, 0), some (.iconst 0, 1, 0, 0, 0, 0), some (.istore_n 2, 1, 0, 0, 0, 0), some (.aload_n 0, 1, 0, 0, 0, 0), some (.iconst 0, 1, 0, 0, 0, 0), some (.putfield 174, 3, 0, 11, 8, 876), none, none, some (.iload_n 2, 1, 0, 0, 0, 0), some (.aload_n 0, 1, 0, 0, 0, 0), some (.getfield 147, 3, 0, 11, 6, 874), none, none, some (.if_icmp .ge 61, 3, 0, 0, 0, 0), none, none, some (.aload_n 0, 1, 0, 0, 0, 0), some (.getfield 174, 3, 0, 11, 8, 876), none, none, some (.ifCond .ne 54, 3, 0, 0, 0, 0), none, none, some (.aload_n 0, 1, 0, 0, 0, 0), some (.iload_n 2, 1, 0, 0, 0, 0), some (.invokevirtual 178, 3, 0, 189, 0, 1105), none, none, some (.istore_n 3, 1, 0, 0, 0, 0), some (.iload_n 3, 1, 0, 0, 0, 0), some (.ifCond .ge 32, 3, 0, 0, 0, 0), none, none, some (.aload_n 0, 1, 0, 0, 0, 0), some (.iconst 1, 1, 0, 0, 0, 0), some (.putfield 174, 3, 0, 11, 8, 876), none, none, some (.aload_n 0, 1, 0, 0, 0, 0), some (.getfield 23, 3, 0, 11, 7, 875), none, none, some (.iconst 0, 1, 0, 0, 0, 0), some (.iload_n 3, 1, 0, 0, 0, 0), some (.iastore, 1, 0, 0, 0, 0), some (.aload_n 0, 1, 0, 0, 0, 0), some (.getfield 23, 3, 0, 11, 7, 875), none, none, some (.iconst 1, 1, 0, 0, 0, 0), some (.iload_n 1, 1, 0, 0, 0, 0), some (.iastore, 1, 0, 0, 0, 0), some (.aload_n 0, 1, 0, 0, 0, 0), some (.getfield 23, 3, 0, 11, 7, 875), none, none, some (.iconst 2, 1, 0, 0, 0, 0), some (.iload_n 2, 1, 0, 0, 0, 0), some (.iastore, 1, 0, 0, 0, 0), some (.goto 12, 3, 0, 0, 0, 0), none, none, some (.iinc 1 1, 3, 0, 0, 0, 0), none, none, some (.aload_n 0, 1, 0, 0, 0, 0), some (.iload_n 2, 1, 0, 0, 0, 0), some (.invokevirtual 162, 3, 0, 186, 0, 1081), none, none, some (.istore_n 2, 1, 0, 0, 0, 0), some (.goto (-63), 3, 0, 0, 0, 0), none, none, some (.aload_n 0, 1, 0, 0, 0, 0), some (.iconst 0, 1, 0, 0, 0, 0), some (.putfield 147, 3, 0, 11, 6, 874), none, none, some (.iload_n 1, 1, 0, 0, 0, 0), some (.ireturn, 1, 0, 0, 0, 0)]
def xk_192 : List (Option xQ) := [some (.iload_n 1, 1, 0, 0, 0, 0), some (.iconst 0, 1, 0, 0, 0, 0), some (.iconst 2, 1, 0, 0, 0, 0), some (.invokestatic 40, 3, 0, 138, 0, 1001), none, none, some (.ifCond .ne 7, 3, 0, 0, 0, 0), none, none, some (.iconst (-1), 1, 0, 0, 0, 0), some (.goto 21, 3, 0, 0, 0, 0), none, none, some (.aload_n 0, 1, 0, 0, 0, 0), some (.getfield 174, 3, 0, 11, 8, 876), none, none, some (.ifCond .eq 12, 3, 0, 0, 0, 0), none, none, some (.aload_n 0, 1, 0, 0, 0, 0), some (.getfield 23, 3, 0, 11, 7, 875), none, none, some (.iload_n 1, 1, 0, 0, 0, 0), some (.iaload, 1, 0, 0, 0, 0), some (.goto 5, 3, 0, 0, 0, 0), none, none, some (.bipush (-4), 2, 0, 0, 0, 0), none, some (.ireturn, 1, 0, 0, 0, 0)]
def xk_193 : List (Option xQ) := [some (.iconst 0, 1, 0, 0, 0, 0), some (.istore 4, 2, 0, 0, 0, 0), none, some (.iconst 0, 1, 0, 0, 0, 0), some (.istore 5, 2, 0, 0, 0, 0), none, some (.iload 5, 2, 0, 0, 0, 0), none, some (.iload_n 2, 1, 0, 0, 0, 0), some (.bipush 36, 2, 0, 0, 0, 0), none, some (.imul, 1, 0, 0, 0, 0), some (.if_icmp .ge 77, 3, 0, 0, 0, 0), none, none, some (.aload_n 0, 1, 0, 0, 0, 0), some (.iload_n 1, 1, 0, 0, 0, 0), some (.iload 5, 2, 0, 0, 0, 0), none, some (.bipush 36, 2, 0, 0, 0, 0), none, some (.idiv, 1, 0, 0, 0, 0), some (.iload 5, 2, 0, 0, 0, 0), none, some (.bipush 36, 2, 0, 0, 0, 0), none, some (.irem, 1, 0, 0, 0, 0), some (.invokevirtual 55, 3, 0, 141, 0, 937), none, none, some (.istore 6, 2, 0, 0, 0, 0), none, some (.iload_n 3, 1, 0, 0, 0, 0), some (.iconst 1, 1, 0, 0, 0, 0), some (.if_icmp .ne 16, 3, 0, 0, 0, 0), none, none, some (.iload 6, 2, 0, 0, 0, 0), none, some (.ifCond .le 7, 3, 0, 0, 0, 0), none, none, some (.iconst 1, 1, 0, 0, 0, 0), some (.goto 9, 3, 0, 0, 0, 0), none, none, some (.iconst 0, 1, 0, 0, 0, 0), some (.goto 5, 3, 0, 0, 0, 0), none, none, some (.iload 6, 2, 0, 0, 0, 0), none, some (.istore 7, 2, 0, 0, 0, 0), none, some (.iload_n 3, 1, 0, 0, 0, 0), some (.iconst 3, 1, 0, 0, 0, 0), some (.if_icmp .ne 20, 3, 0, 0, 0, 0), none, none, some (.iload 6, 2, 0, 0, 0, 0), none, some (.iload 4, 2, 0, 0, 0, 0), none, some (.if_icmp .le 8, 3, 0, 0, 0, 0), none, none, some (.iload 6, 2, 0, 0, 0, 0), none, some (.goto 13, 3, 0, 0, 0, 0), none, none, some (.iload 4, 2, 0, 0, 0, 0), none, some (.goto 8, 3, 0, 0, 0, 0), none, none, some (.iload 4, 2, 0, 0, 0, 0), none, some (.iload 7, 2, 0, 0, 0, 0), none, some (.iadd, 1, 0, 0, 0, 0), some (.istore 4, 2, 0, 0, 0, 0), none, some (.iinc 5 1, 3, 0, 0, 0, 0), none, none, some (.goto (-80), 3, 0, 0, 0, 0), none, none, some (.iload 4, 2, 0, 0, 0, 0), none, some (.ireturn, 1, 0, 0, 0, 0)]
def xk_194 : List (Option xQ) := [some (.aload_n 0, 1, 0, 0, 0, 0), some (.iload_n 1, 1, 0, 0, 0, 0), some (.invokevirtual 143, 3, 0, 145, 0, 1053), none, none, some (.ifCond .ne 5, 3, 0, 0, 0, 0), none, none, some (.iconst (-1), 1, 0, 0, 0, 0), some (.ireturn, 1, 0, 0, 0, 0), some (.iload_n 2, 1, 0, 0, 0, 0), some (.tableswitch 79 0 5 #[37, 46, 46, 46, 61, 70], 37, 0, 0, 0, 0), none, none, none, none, none, none, none, none, none, none, none, none, none, none, none, none, none, none, none, none, none, none, none, none, none, none, none, none, none, none, none, none, none, none, none, none, some (.aload_n 0, 1, 0, 0, 0, 0), some (.bipush 14, 2, 0, 0, 0, 0), none, some (.iload_n 1, 1, 0, 0, 0, 0), some (.iadd, 1, 0, 0, 0, 0), some (.invokevirtual 36, 3, 0, 139, 0, 909), none, none, some (.ireturn, 1, 0, 0, 0, 0), some (.aload_n 0, 1, 0, 0, 0, 0), some (.iload_n 1, 1, 0, 0, 0, 0), some (.aload_n 0, 1, 0, 0, 0, 0), some (.bipush 14, 2, 0, 0, 0, 0), none, some (.iload_n 1, 1, 0, 0, 0, 0), some (.iadd, 1, 0, 0, 0, 0), some (.invokevirtual 36, 3, 0, 139, 0, 909), none, none, some (.iload_n 2, 1, 0, 0, 0, 0), some (.invokevirtual 181, 3, 0, 193, 0, 1125), none, none, some (.ireturn, 1, 0, 0, 0, 0), some (.aload_n 0, 1, 0, 0, 0, 0), some (.bipush 20, 2, 0, 0, 0, 0), none, some (.iload_n 1, 1, 0, 0, 0, 0), some (.iadd, 1, 0, 0, 0, 0), some (.invokevirtual 36, 3, 0, 139, 0, 909), none, none, some (.ireturn, 1, 0, 0, 0, 0), some (.aload_n 0, 1, 0, 0, 0, 0), some (.bipush 26, 2, 0, 0, 0, 0), none, some (.iload_n 1, 1, 0, 0, 0, 0), some (.iadd, 1, 0, 0, 0, 0), some (.invokevirtual 36, 3, 0, 139, 0, 909), none, none, some (.ireturn, 1, 0, 0, 0, 0), some (.iconst (-1), 1, 0, 0, 0, 0), some (.ireturn, 1, 0, 0, 0, 0)]
def xk_195 : List (Option xQ) := [some (.aload_n 0, 1, 0, 0, 0, 0), some (.iload_n 1, 1, 0, 0, 0, 0), some (.invokevirtual 143, 3, 0, 145, 0, 1053), none, none, some (.ifCond .eq 35, 3, 0, 0, 0, 0), none, none, some (.iload_n 2, 1, 0, 0, 0, 0), some (.iconst 0, 1, 0, 0, 0, 0), some (.aload_n 0, 1, 0, 0, 0, 0), some (.bipush 14, 2, 0, 0, 0, 0), none, some (.iload_n 1, 1, 0, 0, 0, 0), some (.iadd, 1, 0, 0, 0, 0), some (.invokevirtual 36, 3, 0, 139, 0, 909), none, none, some (.iconst 1, 1, 0, 0, 0, 0), some (.isub, 1, 0, 0, 0, 0), some (.invokestatic 40, 3, 0, 138, 0, 1001), none, none, some (.ifCond .eq 17, 3, 0, 0, 0, 0), none, none, some (.iload_n 3, 1, 0, 0, 0, 0), some (.iconst 0, 1, 0, 0, 0, 0), some (.bipush 35, 2, 0, 0, 0, 0), none, some (.invokestatic 40, 3, 0, 138, 0, 1001), none, none, some (.ifCond .eq 7, 3, 0, 0, 0, 0), none, none, some (.iconst 1, 1, 0, 0, 0, 0), some (.goto 4, 3, 0, 0, 0, 0), none, none, some (.iconst 0, 1, 0, 0, 0, 0), some (.istore 4, 2, 0, 0, 0, 0), none, some (.iload 4, 2, 0, 0, 0, 0), none, some (.ifCond .eq 13, 3, 0, 0, 0, 0), none, none, some (.aload_n 0, 1, 0, 0, 0, 0), some (.iload_n 1, 1, 0, 0, 0, 0), some (.iload_n 2, 1, 0, 0, 0, 0), some (.iload_n 3, 1, 0, 0, 0, 0), some (.invokevirtual 55, 3, 0, 141, 0, 937), none, none, some (.goto 4, 3, 0, 0, 0, 0), none, none, some (.iconst (-1), 1, 0, 0, 0, 0), some (.ireturn, 1, 0, 0, 0, 0)]
def xk_196 : List (Option xQ) := [some (.iload_n 3, 1, 0, 0, 0, 0), some (.bipush 12, 2, 0, 0, 0, 0), none, some (.aload_n 0, 1, 0, 0, 0, 0), some (.iconst 2, 1, 0, 0, 0, 0), some (.invokevirtual 36, 3, 0, 139, 0, 909), none, none, some (.imul, 1, 0, 0, 0, 0), some (.iadd, 1, 0, 0, 0, 0), some (.istore 4, 2, 0, 0, 0, 0), none, some (.aload_n 0, 1, 0, 0, 0, 0), some (.getfield 7, 3, 0, 11, 0, 868), none, none, some (.bipush 20, 2, 0, 0, 0, 0), none, some (.iload_n 1, 1, 0, 0, 0, 0), some (.iadd, 1, 0, 0, 0, 0), some (.laload, 1, 0, 0, 0, 0), some (.lconst 1, 1, 0, 0, 0, 0), some (.lcmp, 1, 0, 0, 0, 0), some (.ifCond .eq 10, 3, 0, 0, 0, 0), none, none, some (.iload 4, 2, 0, 0, 0, 0), none, some (.bipush 36, 2, 0, 0, 0, 0), none, some (.if_icmp .lt 7, 3, 0, 0, 0, 0), none, none, some (.iconst 0, 1, 0, 0, 0, 0), some (.goto 20, 3, 0, 0, 0, 0), none, none, some (.aload_n 0, 1, 0, 0, 0, 0), some (.iload_n 1, 1, 0, 0, 0, 0), some (.iload_n 2, 1, 0, 0, 0, 0), some (.aload_n 0, 1, 0, 0, 0, 0), some (.bipush 14, 2, 0, 0, 0, 0), none, some (.iload_n 1, 1, 0, 0, 0, 0), some (.iadd, 1, 0, 0, 0, 0), some (.invokevirtual 36, 3, 0, 139, 0, 909), none, none, some (.irem, 1, 0, 0, 0, 0), some (.iload 4, 2, 0, 0, 0, 0), none, some (.invokevirtual 55, 3, 0, 141, 0, 937), none, none, some (.ireturn, 1, 0, 0, 0, 0)]
def xk_197 : List (Option xQ) := [some (.iconst 0, 1, 0, 0, 0, 0), some (.istore 4, 2, 0, 0, 0, 0), none, some (.iconst 0, 1, 0, 0, 0, 0), some (.istore 5, 2, 0, 0, 0, 0), none, some (.iload 5, 2, 0, 0, 0, 0), none, some (.iload_n 1, 1, 0, 0, 0, 0), some (.if_icmp .ge 22, 3, 0, 0, 0, 0), none, none, some (.iload 4, 2, 0, 0, 0, 0), none, some (.aload_n 0, 1, 0, 0, 0, 0), some (.iload 5, 2, 0, 0, 0, 0), none, some (.iload_n 2, 1, 0, 0, 0, 0), some (.iload_n 3, 1, 0, 0, 0, 0), some (.invokevirtual 184, 3, 0, 196, 0, 1145), none, none, some (.iadd, 1, 0, 0, 0, 0), some (.istore 4, 2, 0, 0, 0, 0), none, some (.iinc 5 1, 3, 0, 0, 0, 0), none, none, some (.goto (-22), 3, 0, 0, 0, 0), none, none, some (.iload 4, 2, 0, 0, 0, 0), none, some (.ireturn, 1, 0, 0, 0, 0)]
def xk_198 : List (Option xQ) := [some (.iconst 0, 1, 0, 0, 0, 0), some (.istore_n 3, 1, 0, 0, 0, 0), some (.iconst 0, 1, 0, 0, 0, 0), some (.istore 4, 2, 0, 0, 0, 0), none, some (.iload 4, 2, 0, 0, 0, 0), none, some (.bipush 36, 2, 0, 0, 0, 0), none, some (.if_icmp .ge 20, 3, 0, 0, 0, 0), none, none, some (.iload_n 3, 1, 0, 0, 0, 0), some (.aload_n 0, 1, 0, 0, 0, 0), some (.iload_n 1, 1, 0, 0, 0, 0), some (.iload_n 2, 1, 0, 0, 0, 0), some (.iload 4, 2, 0, 0, 0, 0), none, some (.invokevirtual 187, 3, 0, 197, 0, 1141), none, none, some (.iadd, 1, 0, 0, 0, 0), some (.istore_n 3, 1, 0, 0, 0, 0), some (.iinc 4 1, 3, 0, 0, 0, 0), none, none, some (.goto (-21), 3, 0, 0, 0, 0), none, none, some (.iload_n 3, 1, 0, 0, 0, 0), some (.ireturn, 1, 0, 0, 0, 0)]
def xk_199 : List (Option xQ) := [some (.iload_n 1, 1, 0, 0, 0, 0), some (.iconst 0, 1, 0, 0, 0, 0), some (.aload_n 0, 1, 0, 0, 0, 0), some (.invokevirtual 80, 3, 0, 147, 0, 963), none, none, some (.iconst 1, 1, 0, 0, 0, 0), some (.isub, 1, 0, 0, 0, 0), some (.invokestatic 40, 3, 0, 138, 0, 1001), none, none, some (.ireturn, 1, 0, 0, 0, 0)]
def xk_200 : List (Option xQ) := [some (.aload_n 0, 1, 0, 0, 0, 0), some (.iload_n 1, 1, 0, 0, 0, 0), some (.invokevirtual 190, 3, 0, 199, 0, 1137), none, none, some (.ifCond .eq 28, 3, 0, 0, 0, 0), none, none, some (.iload_n 2, 1, 0, 0, 0, 0), some (.iconst 0, 1, 0, 0, 0, 0), some (.bipush 35, 2, 0, 0, 0, 0), none, some (.invokestatic 40, 3, 0, 138, 0, 1001), none, none, some (.ifCond .eq 18, 3, 0, 0, 0, 0), none, none, some (.aload_n 0, 1, 0, 0, 0, 0), some (.aload_n 0, 1, 0, 0, 0, 0), some (.bipush 7, 2, 0, 0, 0, 0), none, some (.invokevirtual 36, 3, 0, 139, 0, 909), none, none, some (.iload_n 1, 1, 0, 0, 0, 0), some (.iload_n 2, 1, 0, 0, 0, 0), some (.invokevirtual 187, 3, 0, 197, 0, 1141), none, none, some (.goto 4, 3, 0, 0, 0, 0), none, none, some (.iconst (-1), 1, 0, 0, 0, 0), some (.ireturn, 1, 0, 0, 0, 0)]
def xk_201 : List (Option xQ) := [some (.iconst 0, 1, 0, 0, 0, 0), some (.istore_n 3, 1, 0, 0, 0, 0), some (.bipush (-4), 2, 0, 0, 0, 0), none, some (.istore 4, 2, 0, 0, 0, 0), none, some (.iconst 0, 1, 0, 0, 0, 0), some (.istore 5, 2, 0, 0, 0, 0), none, some (.iconst 0, 1, 0, 0, 0, 0), some (.istore 6, 2, 0, 0, 0, 0), none, some (.iload 6, 2, 0, 0, 0, 0), none, some (.bipush 36, 2, 0, 0, 0, 0), none, some (.if_icmp .ge 122, 3, 0, 0, 0, 0), none, none, some (.aload_n 0, 1, 0, 0, 0, 0), some (.aload_n 0, 1, 0, 0, 0, 0), some (.bipush 7, 2, 0, 0, 0, 0), none, some (.invokevirtual 36, 3, 0, 139, 0, 909), none, none, some (.iload_n 1, 1, 0, 0, 0, 0), some (.iload 6, 2, 0, 0, 0, 0), none, some (.invokevirtual 187, 3, 0, 197, 0, 1141), none, none, some (.istore 7, 2, 0, 0, 0, 0), none, some (.iload_n 3, 1, 0, 0, 0, 0), some (.iload 7, 2, 0, 0, 0, 0), none, some (.ifCond .le 7, 3, 0, 0, 0, 0), none, none, some (.iconst 1, 1, 0, 0, 0, 0), some (.goto 4, 3, 0, 0, 0, 0), none, none, some (.iconst 0, 1, 0, 0, 0, 0), some (.iadd, 1, 0, 0, 0, 0), some (.istore_n 3, 1, 0, 0, 0, 0), some (.iload_n 2, 1, 0, 0, 0, 0), some (.iconst 2, 1, 0, 0, 0, 0), some (.if_icmp .ne 16, 3, 0, 0, 0, 0), none, none, some (.iload 7, 2, 0, 0, 0, 0), none, some (.ifCond .le 7, 3, 0, 0, 0, 0), none, none, some (.iconst 1, 1, 0, 0, 0, 0), some (.goto 42, 3, 0, 0, 0, 0), none, none, some (.iconst 0, 1, 0, 0, 0, 0), some (.goto 38, 3, 0, 0, 0, 0), none, none, some (.iload_n 2, 1, 0, 0, 0, 0), some (.iconst 3, 1, 0, 0, 0, 0), some (.if_icmp .ne 21, 3, 0, 0, 0, 0), none, none, some (.iload 7, 2, 0, 0, 0, 0), none, some (.ifCond .le 12, 3, 0, 0, 0, 0), none, none, some (.iload 4, 2, 0, 0, 0, 0), none, some (.ifCond .ge 7, 3, 0, 0, 0, 0), none, none, some (.iconst 1, 1, 0, 0, 0, 0), some (.goto 19, 3, 0, 0, 0, 0), none, none, some (.iconst 0, 1, 0, 0, 0, 0), some (.goto 15, 3, 0, 0, 0, 0), none, none, some (.iload 7, 2, 0, 0, 0, 0), none, some (.iload 5, 2, 0, 0, 0, 0), none, some (.if_icmp .le 7, 3, 0, 0, 0, 0), none, none, some (.iconst 1, 1, 0, 0, 0, 0), some (.goto 4, 3, 0, 0, 0, 0), none, none, some (.iconst 0, 1, 0, 0, 0, 0), some (.istore 8, 2, 0, 0, 0, 0), none, some (.iload 8, 2, 0, 0, 0, 0), none, some (.ifCond .eq 8, 3, 0, 0, 0, 0), none, none, some (.iload 6, 2, 0, 0, 0, 0), none, some (.goto 5, 3, 0, 0, 0, 0), none, none, some (.iload 4, 2, 0, 0, 0, 0), none, some (.istore 4, 2, 0, 0, 0, 0), none, some (.iload 7, 2, 0, 0, 0, 0), none, some (.iload 5, 2, 0, 0, 0, 0), none, some (.if_icmp .le 8, 3, 0, 0, 0, 0), none, none, some (.iload 7, 2, 0, 0, 0, 0), none, some (.goto 5, 3, 0, 0, 0, 0), none, none, some (.iload 5, 2, 0, 0, 0, 0), none, some (.istore 5, 2, 0, 0, 0, 0), none, some (.iinc 6 1, 3, 0, 0, 0, 0), none, none, some (.goto (-123), 3, 0, 0, 0, 0), none, none, some (.iload_n 2, 1, 0, 0, 0, 0), some (.ifCond .ne 7, 3, 0, 0, 0, 0), none, none, some (.iload_n 3, 1, 0, 0, 0, 0), some (.goto 5, 3, 0, 0, 0, 0), none, none, some (.iload 4, 2, 0, 0, 0, 0), none, some (.ireturn, 1, 0, 0, 0, 0)]
def xk_202 : List (Option xQ) := [some (.aload_n 0, 1, 0, 0, 0, 0), some (.iload_n 1, 1, 0, 0, 0, 0), some (.invokevirtual 190, 3, 0, 199, 0, 1137), none, none, some (.ifCond .eq 12, 3, 0, 0, 0, 0), none, none, some (.iload_n 2, 1, 0, 0, 0, 0), some (.iconst 0, 1, 0, 0, 0, 0), some (.iconst 4, 1, 0, 0, 0, 0), some (.invokestatic 40, 3, 0, 138, 0, 1001), none, none, some (.ifCond .ne 5, 3, 0, 0, 0, 0), none, none, some (.iconst (-1), 1, 0, 0, 0, 0), some (.ireturn, 1, 0, 0, 0, 0), some (.iload_n 2, 1, 0, 0, 0, 0), some (.iconst 1, 1, 0, 0, 0, 0), some (.if_icmp .ne 17, 3, 0, 0, 0, 0), none, none, some (.aload_n 0, 1, 0, 0, 0, 0), some (.aload_n 0, 1, 0, 0, 0, 0), some (.bipush 7, 2, 0, 0, 0, 0), none, some (.invokevirtual 36, 3, 0, 139, 0, 909), none, none, some (.iload_n 1, 1, 0, 0, 0, 0), some (.invokevirtual 193, 3, 0, 198, 0, 1153), none, none, some (.goto 9, 3, 0, 0, 0, 0), none, none, some (.aload_n 0, 1, 0, 0, 0, 0), some (.iload_n 1, 1, 0, 0, 0, 0), some (.iload_n 2, 1, 0, 0, 0, 0), some (.invokevirtual 196, 3, 0, 201, 0, 1157), none, none, some (.ireturn, 1, 0, 0, 0, 0)]
def xk_203 : List (Option xQ) := [some (.aload_n 0, 1, 0, 0, 0, 0), some (.bipush 7, 2, 0, 0, 0, 0), none, some (.invokevirtual 36, 3, 0, 139, 0, 909), none, none, some (.ifCond .ne 6, 3, 0, 0, 0, 0), none, none, some (.bipush (-2), 2, 0, 0, 0, 0), none, some (.ireturn, 1, 0, 0, 0, 0), some (.bipush (-4), 2, 0, 0, 0, 0), none, some (.istore_n 1, 1, 0, 0, 0, 0), some (.iconst 0, 1, 0, 0, 0, 0), some (.istore_n 2, 1, 0, 0, 0, 0), some (.iconst 0, 1, 0, 0, 0, 0), some (.istore_n 3, 1, 0, 0, 0, 0), some (.iload_n 3, 1, 0, 0, 0, 0), some (.aload_n 0, 1, 0, 0, 0, 0), some (.invokevirtual 80, 3, 0, 147, 0, 963), none, none, some (.if_icmp .ge 47, 3, 0, 0, 0, 0), none, none, some (.aload_n 0, 1, 0, 0, 0, 0), some (.aload_n 0, 1, 0, 0, 0, 0), some (.bipush 7, 2, 0, 0, 0, 0), none, some (.invokevirtual 36, 3, 0, 139, 0, 909), none, none, some (.iload_n 3, 1, 0, 0, 0, 0), some (.invokevirtual 193, 3, 0, 198, 0, 1153), none, none, some (.istore 4, 2, 0, 0, 0, 0), none, some (.iload 4, 2, 0, 0, 0, 0), none, some (.iload_n 2, 1, 0, 0, 0, 0), some (.if_icmp .le 7, 3, 0, 0, 0, 0), none, none, some (.iload_n 3, 1, 0, 0, 0, 0), some (.goto 4, 3, 0, 0, 0, 0), none, none, some (.iload_n 1, 1, 0, 0, 0, 0), some (.istore_n 1, 1, 0, 0, 0, 0), some (.iload 4, 2, 0, 0, 0, 0), none, some (.iload_n 2, 1, 0, 0, 0, 0), some (.if_icmp .le 8, 3, 0, 0, 0, 0), none, none, some (.iload 4, 2, 0, 0, 0, 0), none, some (.goto 4, 3, 0, 0, 0, 0), none, none, some (.iload_n 2, 1, 0, 0, 0, 0), some (.istore_n 2, 1, 0, 0, 0, 0), some (.iinc 3 1, 3, 0, 0, 0, 0), none, none, some (.goto (-49), 3, 0, 0, 0, 0), none, none, some (.iload_n 1, 1, 0, 0, 0, 0), some (.ireturn, 1, 0, 0, 0, 0)]
def xk_204 : List (Option xQ) := [some (.iconst 0, 1, 0, 0, 0, 0), some (.istore_n 2, 1, 0, 0, 0, 0), some (.iconst 0, 1, 0, 0, 0, 0), some (.istore_n 3, 1, 0, 0, 0, 0), some (.iload_n 3, 1, 0, 0, 0, 0), some (.aload_n 0, 1, 0, 0, 0, 0), some (.invokevirtual 80, 3, 0, 147, 0, 963), none, none, some (.bipush 36, 2, 0, 0, 0, 0), none, some (.imul, 1, 0, 0, 0, 0), some (.if_icmp .ge 62, 3, 0, 0, 0, 0), none, none, some (.aload_n 0, 1, 0, 0, 0, 0), some (.iload_n 1, 1, 0, 0, 0, 0), some (.iload_n 3, 1, 0, 0, 0, 0), some (.bipush 36, 2, 0, 0, 0, 0), none, some (.idiv, 1, 0, 0, 0, 0), some (.iload_n 3, 1, 0, 0, 0, 0), some (.bipush 36, 2, 0, 0, 0, 0), none, some (.irem, 1, 0, 0, 0, 0), some (.invokevirtual 184, 3, 0, 196, 0, 1145), none, none, some (.istore 4, 2, 0, 0, 0, 0), none, some (.iload_n 2, 1, 0, 0, 0, 0), some (.iload 4, 2, 0, 0, 0, 0), none, some (.ifCond .le 32, 3, 0, 0, 0, 0), none, none, some (.iconst 2, 1, 0, 0, 0, 0), some (.iload 4, 2, 0, 0, 0, 0), none, some (.imul, 1, 0, 0, 0, 0), some (.aload_n 0, 1, 0, 0, 0, 0), some (.aload_n 0, 1, 0, 0, 0, 0), some (.bipush 7, 2, 0, 0, 0, 0), none, some (.invokevirtual 36, 3, 0, 139, 0, 909), none, none, some (.iload_n 3, 1, 0, 0, 0, 0), some (.bipush 36, 2, 0, 0, 0, 0), none, some (.idiv, 1, 0, 0, 0, 0), some (.iload_n 3, 1, 0, 0, 0, 0), some (.bipush 36, 2, 0, 0, 0, 0), none, some (.irem, 1, 0, 0, 0, 0), some (.invokevirtual 187, 3, 0, 197, 0, 1141), none, none, some (.if_icmp .ge 7, 3, 0, 0, 0, 0), none, none, some (.iconst 1, 1, 0, 0, 0, 0), some (.goto 4, 3, 0, 0, 0, 0), none, none, some (.iconst 0, 1, 0, 0, 0, 0), some (.iadd, 1, 0, 0, 0, 0), some (.istore_n 2, 1, 0, 0, 0, 0), some (.iinc 3 1, 3, 0, 0, 0, 0), none, none, some (.goto (-67), 3, 0, 0, 0, 0), none, none, some (.iload_n 2, 1, 0, 0, 0, 0), some (.ireturn, 1, 0, 0, 0, 0)]
def xk_205 : List (Option xQ) := [some (.bipush (-4), 2, 0, 0, 0, 0), none, some (.istore_n 1, 1, 0, 0, 0, 0), some (.iconst 0, 1, 0, 0, 0, 0), some (.istore_n 2, 1, 0, 0, 0, 0), some (.iconst 0, 1, 0, 0, 0, 0), some (.istore_n 3, 1, 0, 0, 0, 0), some (.iload_n 3, 1, 0, 0, 0, 0), some (.aload_n 0, 1, 0, 0, 0, 0), some (.bipush 7, 2, 0, 0, 0, 0), none, some (.invokevirtual 36, 3, 0, 139, 0, 909), none, none, some (.if_icmp .ge 41, 3, 0, 0, 0, 0), none, none, some (.aload_n 0, 1, 0, 0, 0, 0), some (.iload_n 3, 1, 0, 0, 0, 0), some (.invokevirtual 199, 3, 0, 204, 0, 1169), none, none, some (.istore 4, 2, 0, 0, 0, 0), none, some (.iload 4, 2, 0, 0, 0, 0), none, some (.iload_n 2, 1, 0, 0, 0, 0), some (.if_icmp .le 7, 3, 0, 0, 0, 0), none, none, some (.iload_n 3, 1, 0, 0, 0, 0), some (.goto 4, 3, 0, 0, 0, 0), none, none, some (.iload_n 1, 1, 0, 0, 0, 0), some (.istore_n 1, 1, 0, 0, 0, 0), some (.iload 4, 2, 0, 0, 0, 0), none, some (.iload_n 2, 1, 0, 0, 0, 0), some (.if_icmp .le 8, 3, 0, 0, 0, 0), none, none, some (.iload 4, 2, 0, 0, 0, 0), none, some (.goto 4, 3, 0, 0, 0, 0), none, none, some (.iload_n 2, 1, 0, 0, 0, 0), some (.istore_n 2, 1, 0, 0, 0, 0), some (.iinc 3 1, 3, 0, 0, 0, 0), none, none, some (.goto (-45), 3, 0, 0, 0, 0), none, none, some (.iload_n 1, 1, 0, 0, 0, 0), some (.ireturn, 1, 0, 0, 0, 0)]
def xk_206 : List (Option xQ) := [some (.iconst 1, 1, 0, 0, 0, 0), some (.istore_n 2, 1, 0, 0, 0, 0), some (.iload_n 1, 1, 0, 0, 0, 0), some (.istore_n 3, 1, 0, 0, 0, 0), some (.iconst 0, 1, 0, 0, 0, 0), some (.istore 4, 2, 0, 0, 0, 0), none, some (.iload 4, 2, 0, 0, 0, 0), none, some (.aload_n 0, 1, 0, 0, 0, 0), some (.getfield 147, 3, 0, 11, 6, 874), none, none, some (.if_icmp .ge 53, 3, 0, 0, 0, 0), none, none, some (.iload_n 2, 1, 0, 0, 0, 0), some (.ifCond .eq 22, 3, 0, 0, 0, 0), none, none, some (.aload_n 0, 1, 0, 0, 0, 0), some (.iload_n 3, 1, 0, 0, 0, 0), some (.iconst 2, 1, 0, 0, 0, 0), some (.invokevirtual 196, 3, 0, 201, 0, 1157), none, none, some (.aload_n 0, 1, 0, 0, 0, 0), some (.iload 4, 2, 0, 0, 0, 0), none, some (.invokevirtual 168, 3, 0, 184, 0, 1109), none, none, some (.if_icmp .ne 7, 3, 0, 0, 0, 0), none, none, some (.iconst 1, 1, 0, 0, 0, 0), some (.goto 4, 3, 0, 0, 0, 0), none, none, some (.iconst 0, 1, 0, 0, 0, 0), some (.istore_n 2, 1, 0, 0, 0, 0), some (.iload_n 3, 1, 0, 0, 0, 0), some (.iconst 1, 1, 0, 0, 0, 0), some (.iadd, 1, 0, 0, 0, 0), some (.aload_n 0, 1, 0, 0, 0, 0), some (.invokevirtual 80, 3, 0, 147, 0, 963), none, none, some (.irem, 1, 0, 0, 0, 0), some (.istore_n 3, 1, 0, 0, 0, 0), some (.aload_n 0, 1, 0, 0, 0, 0), some (.iload 4, 2, 0, 0, 0, 0), none, some (.iconst 0, 1, 0, 0, 0, 0), some (.bipush 35, 2, 0, 0, 0, 0), none, some (.invokevirtual 156, 3, 0, 183, 0, 1089), none, none, some (.iconst 1, 1, 0, 0, 0, 0), some (.iadd, 1, 0, 0, 0, 0), some (.istore 4, 2, 0, 0, 0, 0), none, some (.goto (-56), 3, 0, 0, 0, 0), none, none, some (.iload_n 2, 1, 0, 0, 0, 0), some (.ireturn, 1, 0, 0, 0, 0)]
def xk_207 : List (Option xQ) := [some (.aload_n 0, 1, 0, 0, 0, 0), some (.iconst 1, 1, 0, 0, 0, 0), some (.invokevirtual 165, 3, 0, 187, 0, 1077), none, none, some (.bipush (-4), 2, 0, 0, 0, 0), none, some (.if_icmp .ne 12, 3, 0, 0, 0, 0), none, none, some (.aload_n 0, 1, 0, 0, 0, 0), some (.bipush 7, 2, 0, 0, 0, 0), none, some (.invokevirtual 36, 3, 0, 139, 0, 909), none, none, some (.ifCond .ne 6, 3, 0, 0, 0, 0), none, none, some (.bipush (-2), 2, 0, 0, 0, 0), none, some (.ireturn, 1, 0, 0, 0, 0), some (.iconst 0, 1, 0, 0, 0, 0), some (.istore_n 1, 1, 0, 0, 0, 0), some (.iconst 0, 1, 0, 0, 0, 0), some (.istore_n 2, 1, 0, 0, 0, 0), some (.iload_n 2, 1, 0, 0, 0, 0), some (.aload_n 0, 1, 0, 0, 0, 0), some (.invokevirtual 80, 3, 0, 147, 0, 963), none, none, some (.if_icmp .ge 25, 3, 0, 0, 0, 0), none, none, some (.iload_n 1, 1, 0, 0, 0, 0), some (.aload_n 0, 1, 0, 0, 0, 0), some (.iload_n 2, 1, 0, 0, 0, 0), some (.invokevirtual 202, 3, 0, 206, 0, 1177), none, none, some (.ifCond .eq 7, 3, 0, 0, 0, 0), none, none, some (.iconst 1, 1, 0, 0, 0, 0), some (.goto 4, 3, 0, 0, 0, 0), none, none, some (.iconst 0, 1, 0, 0, 0, 0), some (.iadd, 1, 0, 0, 0, 0), some (.istore_n 1, 1, 0, 0, 0, 0), some (.iinc 2 1, 3, 0, 0, 0, 0), none, none, some (.goto (-27), 3, 0, 0, 0, 0), none, none, some (.iload_n 1, 1, 0, 0, 0, 0), some (.ireturn, 1, 0, 0, 0, 0)]
def xk_208 : List (Option xQ) := [some (.iload_n 1, 1, 0, 0, 0, 0), some (.tableswitch 210 0 15 #[79, 85, 90, 110, 117, 124, 152, 159, 166, 176, 182, 182, 182, 193, 198, 203], 79, 0, 0, 0, 0), none, none, none, none, none, none, none, none, none, none, none, none, none, none, none, none, none, none, none, none, none, none, none, none, none, none, none, none, none, none, none, none, none, none, none, none, none, none, none, none, none, none, none, none, none, none, none, none, none, none, none, none, none, none, none, none, none, none, none, none, none, none, none, none, none, none, none, none, none, none, none, none, none, none, none, none, none, none, some (.aload_n 0, 1, 0, 0, 0, 0), some (.iconst 0, 1, 0, 0, 0, 0), some (.invokevirtual 36, 3, 0, 139, 0, 909), none, none, some (.ireturn, 1, 0, 0, 0, 0), some (.aload_n 0, 1, 0, 0, 0, 0), some (.invokevirtual 80, 3, 0, 147, 0, 963), none, none, some (.ireturn, 1, 0, 0, 0, 0), some (.aload_n 0, 1, 0, 0, 0, 0), some (.bipush 7, 2, 0, 0, 0, 0), none, some (.invokevirtual 36, 3, 0, 139, 0, 909), none, none, some (.ifCond .ne 7, 3, 0, 0, 0, 0), none, none, some (.iconst 0, 1, 0, 0, 0, 0), some (.goto 9, 3, 0, 0, 0, 0), none, none, some (.aload_n 0, 1, 0, 0, 0, 0), some (.bipush 6, 2, 0, 0, 0, 0), none, some (.invokevirtual 36, 3, 0, 139, 0, 909), none, none, some (.ireturn, 1, 0, 0, 0, 0), some (.aload_n 0, 1, 0, 0, 0, 0), some (.bipush 7, 2, 0, 0, 0, 0), none, some (.invokevirtual 36, 3, 0, 139, 0, 909), none, none, some (.ireturn, 1, 0, 0, 0, 0), some (.aload_n 0, 1, 0, 0, 0, 0), some (.bipush 8, 2, 0, 0, 0, 0), none, some (.invokevirtual 36, 3, 0, 139, 0, 909), none, none, some (.ireturn, 1, 0, 0, 0, 0), some (.aload_n 0, 1, 0, 0, 0, 0), some (.iconst 0, 1, 0, 0, 0, 0), some (.invokevirtual 36, 3, 0, 139, 0, 909), none, none, some (.iconst 2, 1, 0, 0, 0, 0), some (.if_icmp .eq 12, 3, 0, 0, 0, 0), none, none, some (.aload_n 0, 1, 0, 0, 0, 0), some (.iconst 0, 1, 0, 0, 0, 0), some (.invokevirtual 36, 3, 0, 139, 0, 909), none, none, some (.iconst 3, 1, 0, 0, 0, 0), some (.if_icmp .ne 11, 3, 0, 0, 0, 0), none, none, some (.aload_n 0, 1, 0, 0, 0, 0), some (.iconst 1, 1, 0, 0, 0, 0), some (.invokevirtual 36, 3, 0, 139, 0, 909), none, none, some (.goto 4, 3, 0, 0, 0, 0), none, none, some (.iconst 0, 1, 0, 0, 0, 0), some (.ireturn, 1, 0, 0, 0, 0), some (.aload_n 0, 1, 0, 0, 0, 0), some (.bipush 9, 2, 0, 0, 0, 0), none, some (.invokevirtual 36, 3, 0, 139, 0, 909), none, none, some (.ireturn, 1, 0, 0, 0, 0), some (.aload_n 0, 1, 0, 0, 0, 0), some (.bipush 11, 2, 0, 0, 0, 0), none, some (.invokevirtual 36, 3, 0, 139, 0, 909), none, none, some (.ireturn, 1, 0, 0, 0, 0), some (.aload_n 0, 1, 0, 0, 0, 0), some (.bipush 6, 2, 0, 0, 0, 0), none, some (.bipush 48, 2, 0, 0, 0, 0), none, some (.iconst 1, 1, 0, 0, 0, 0), some (.invokevirtual 181, 3, 0, 193, 0, 1125), none, none, some (.ireturn, 1, 0, 0, 0, 0), some (.aload_n 0, 1, 0, 0, 0, 0), some (.iconst 2, 1, 0, 0, 0, 0), some (.invokevirtual 36, 3, 0, 139, 0, 909), none, none, some (.ireturn, 1, 0, 0, 0, 0), some (.aload_n 0, 1, 0, 0, 0, 0), some (.iconst 3, 1, 0, 0, 0, 0), some (.iload_n 1, 1, 0, 0, 0, 0), some (.iadd, 1, 0, 0, 0, 0), some (.bipush 10, 2, 0, 0, 0, 0), none, some (.isub, 1, 0, 0, 0, 0), some (.invokevirtual 36, 3, 0, 139, 0, 909), none, none, some (.ireturn, 1, 0, 0, 0, 0), some (.aload_n 0, 1, 0, 0, 0, 0), some (.getfield 147, 3, 0, 11, 6, 874), none, none, some (.ireturn, 1, 0, 0, 0, 0), some (.aload_n 0, 1, 0, 0, 0, 0), some (.getfield 28, 3, 0, 11, 2, 870), none, none, some (.ireturn, 1, 0, 0, 0, 0), some (.aload_n 0, 1, 0, 0, 0, 0), some (.bipush 13, 2, 0, 0, 0, 0), none, some (.invokevirtual 36, 3, 0, 139, 0, 909), none, none, some (.ireturn, 1, 0, 0, 0, 0), some (.iconst (-1), 1, 0, 0, 0, 0), some (.ireturn, 1, 0, 0, 0, 0)]
def xk_209 : List (Option xQ) := [some (.iconst 0, 1, 0, 0, 0, 0), some (.istore_n 2, 1, 0, 0, 0, 0), some (.iconst 0, 1, 0, 0, 0, 0), some (.istore_n 3, 1, 0, 0, 0, 0), some (.iload_n 3, 1, 0, 0, 0, 0), some (.aload_n 0, 1, 0, 0, 0, 0), some (.iload_n 1, 1, 0, 0, 0, 0), some (.invokevirtual 44, 3, 0, 146, 0, 967), none, none, some (.if_icmp .ge 18, 3, 0, 0, 0, 0), none, none, some (.iload_n 2, 1, 0, 0, 0, 0), some (.aload_n 0, 1, 0, 0, 0, 0), some (.iload_n 1, 1, 0, 0, 0, 0), some (.iload_n 3, 1, 0, 0, 0, 0), some (.invokevirtual 193, 3, 0, 198, 0, 1153), none, none, some (.iadd, 1, 0, 0, 0, 0), some (.istore_n 2, 1, 0, 0, 0, 0), some (.iinc 3 1, 3, 0, 0, 0, 0), none, none, some (.goto (-21), 3, 0, 0, 0, 0), none, none, some (.iload_n 2, 1, 0, 0, 0, 0), some (.ireturn, 1, 0, 0, 0, 0)]
def xk_210 : List (Option xQ) := [some (.aload_n 0, 1, 0, 0, 0, 0), some (.bipush 7, 2, 0, 0, 0, 0), none, some (.invokevirtual 36, 3, 0, 139, 0, 909), none, none, some (.ifCond .ne 7, 3, 0, 0, 0, 0), none, none, some (.dconst 0, 1, 0, 0, 0, 0), some (.goto 22, 3, 0, 0, 0, 0), none, none, some (.aload_n 0, 1, 0, 0, 0, 0), some (.aload_n 0, 1, 0, 0, 0, 0), some (.bipush 7, 2, 0, 0, 0, 0), none, some (.invokevirtual 36, 3, 0, 139, 0, 909), none, none, some (.invokevirtual 205, 3, 0, 209, 0, 1189), none, none, some (.i2d, 1, 0, 0, 0, 0), some (.dconst 1, 1, 0, 0, 0, 0), some (.dmul, 1, 0, 0, 0, 0), some (.aload_n 0, 1, 0, 0, 0, 0), some (.invokevirtual 80, 3, 0, 147, 0, 963), none, none, some (.i2d, 1, 0, 0, 0, 0), some (.ddiv, 1, 0, 0, 0, 0), some (.dreturn, 1, 0, 0, 0, 0)]
def xk_211 : List (Option xQ) := [some (.aload_n 0, 1, 0, 0, 0, 0), some (.iconst 0, 1, 0, 0, 0, 0), some (.invokevirtual 36, 3, 0, 139, 0, 909), none, none, some (.iconst 2, 1, 0, 0, 0, 0), some (.if_icmp .eq 15, 3, 0, 0, 0, 0), none, none, some (.aload_n 0, 1, 0, 0, 0, 0), some (.iconst 0, 1, 0, 0, 0, 0), some (.invokevirtual 36, 3, 0, 139, 0, 909), none, none, some (.iconst 3, 1, 0, 0, 0, 0), some (.if_icmp .eq 6, 3, 0, 0, 0, 0), none, none, some (.bipush (-2), 2, 0, 0, 0, 0), none, some (.ireturn, 1, 0, 0, 0, 0), some (.iconst 2, 1, 0, 0, 0, 0), some (.aload_n 0, 1, 0, 0, 0, 0), some (.iconst 3, 1, 0, 0, 0, 0), some (.invokevirtual 36, 3, 0, 139, 0, 909), none, none, some (.imul, 1, 0, 0, 0, 0), some (.istore_n 1, 1, 0, 0, 0, 0), some (.aload_n 0, 1, 0, 0, 0, 0), some (.getfield 7, 3, 0, 11, 0, 868), none, none, some (.bipush 10, 2, 0, 0, 0, 0), none, some (.laload, 1, 0, 0, 0, 0), some (.iload_n 1, 1, 0, 0, 0, 0), some (.i2l, 1, 0, 0, 0, 0), some (.lrem, 1, 0, 0, 0, 0), some (.l2i, 1, 0, 0, 0, 0), some (.istore_n 2, 1, 0, 0, 0, 0), some (.iload_n 2, 1, 0, 0, 0, 0), some (.ifCond .ne 7, 3, 0, 0, 0, 0), none, none, some (.iconst 0, 1, 0, 0, 0, 0), some (.goto 6, 3, 0, 0, 0, 0), none, none, some (.iload_n 1, 1, 0, 0, 0, 0), some (.iload_n 2, 1, 0, 0, 0, 0), some (.isub, 1, 0, 0, 0, 0), some (.ireturn, 1, 0, 0, 0, 0)]
def xk_212 : List (Option xQ) := [some (.iload_n 1, 1, 0, 0, 0, 0), some (.iconst 0, 1, 0, 0, 0, 0), some (.bipush 99, 2, 0, 0, 0, 0), none, some (.invokestatic 40, 3, 0, 138, 0, 1001), none, none, some (.ifCond .ne 5, 3, 0, 0, 0, 0), none, none, some (.iconst (-1), 1, 0, 0, 0, 0), some (.ireturn, 1, 0, 0, 0, 0), some (.aload_n 0, 1, 0, 0, 0, 0), some (.bipush 7, 2, 0, 0, 0, 0), none, some (.invokevirtual 36, 3, 0, 139, 0, 909), none, none, some (.ifCond .ne 6, 3, 0, 0, 0, 0), none, none, some (.bipush (-2), 2, 0, 0, 0, 0), none, some (.ireturn, 1, 0, 0, 0, 0), some (.iconst 0, 1, 0, 0, 0, 0), some (.istore_n 2, 1, 0, 0, 0, 0), some (.iload_n 2, 1, 0, 0, 0, 0), some (.aload_n 0, 1, 0, 0, 0, 0), some (.invokevirtual 80, 3, 0, 147, 0, 963), none, none, some (.if_icmp .ge 28, 3, 0, 0, 0, 0), none, none, some (.iload_n 1, 1, 0, 0, 0, 0), some (.aload_n 0, 1, 0, 0, 0, 0), some (.invokevirtual 80, 3, 0, 147, 0, 963), none, none, some (.imul, 1, 0, 0, 0, 0), some (.iload_n 2, 1, 0, 0, 0, 0), some (.iadd, 1, 0, 0, 0, 0), some (.aload_n 0, 1, 0, 0, 0, 0), some (.iconst 3, 1, 0, 0, 0, 0), some (.invokevirtual 36, 3, 0, 139, 0, 909), none, none, some (.irem, 1, 0, 0, 0, 0), some (.ifCond .ne 5, 3, 0, 0, 0, 0), none, none, some (.iload_n 2, 1, 0, 0, 0, 0), some (.ireturn, 1, 0, 0, 0, 0), some (.iinc 2 1, 3, 0, 0, 0, 0), none, none, some (.goto (-30), 3, 0, 0, 0, 0), none, none, some (.bipush (-4), 2, 0, 0, 0, 0), none, some (.ireturn, 1, 0, 0, 0, 0)]
def xk_213 : List (Option xQ) := [some (.aload_n 0, 1, 0, 0, 0, 0), some (.bipush 7, 2, 0, 0, 0, 0), none, some (.invokevirtual 36, 3, 0, 139, 0, 909), none, none, some (.ifCond .ne 6, 3, 0, 0, 0, 0), none, none, some (.bipush (-2), 2, 0, 0, 0, 0), none, some (.ireturn, 1, 0, 0, 0, 0), some (.iconst 1, 1, 0, 0, 0, 0), some (.istore_n 1, 1, 0, 0, 0, 0), some (.iload_n 1, 1, 0, 0, 0, 0), some (.aload_n 0, 1, 0, 0, 0, 0), some (.invokevirtual 80, 3, 0, 147, 0, 963), none, none, some (.imul, 1, 0, 0, 0, 0), some (.aload_n 0, 1, 0, 0, 0, 0), some (.iconst 3, 1, 0, 0, 0, 0), some (.invokevirtual 36, 3, 0, 139, 0, 909), none, none, some (.irem, 1, 0, 0, 0, 0), some (.ifCond .eq 9, 3, 0, 0, 0, 0), none, none, some (.iinc 1 1, 3, 0, 0, 0, 0), none, none, some (.goto (-18), 3, 0, 0, 0, 0), none, none, some (.iload_n 1, 1, 0, 0, 0, 0), some (.ireturn, 1, 0, 0, 0, 0)]
def xk_214 : List (Option xQ) := [some (.iload_n 1, 1, 0, 0, 0, 0), some (.iconst 1, 1, 0, 0, 0, 0), some (.bipush 24, 2, 0, 0, 0, 0), none, some (.invokestatic 40, 3, 0, 138, 0, 1001), none, none, some (.ifCond .eq 11, 3, 0, 0, 0, 0), none, none, some (.aload_n 0, 1, 0, 0, 0, 0), some (.iload_n 1, 1, 0, 0, 0, 0), some (.invokevirtual 67, 3, 0, 153, 0, 925), none, none, some (.goto 4, 3, 0, 0, 0, 0), none, none, some (.iconst (-1), 1, 0, 0, 0, 0), some (.ireturn, 1, 0, 0, 0, 0)]
def xk_215 : List (Option xQ) := [some (.iconst 0, 1, 0, 0, 0, 0), some (.istore_n 1, 1, 0, 0, 0, 0), some (.iconst 0, 1, 0, 0, 0, 0), some (.istore_n 2, 1, 0, 0, 0, 0), some (.iload_n 2, 1, 0, 0, 0, 0), some (.aload_n 0, 1, 0, 0, 0, 0), some (.bipush 7, 2, 0, 0, 0, 0), none, some (.invokevirtual 36, 3, 0, 139, 0, 909), none, none, some (.if_icmp .ge 60, 3, 0, 0, 0, 0), none, none, some (.iconst 0, 1, 0, 0, 0, 0), some (.istore_n 3, 1, 0, 0, 0, 0), some (.iload_n 3, 1, 0, 0, 0, 0), some (.aload_n 0, 1, 0, 0, 0, 0), some (.bipush 14, 2, 0, 0, 0, 0), none, some (.iload_n 2, 1, 0, 0, 0, 0), some (.iadd, 1, 0, 0, 0, 0), some (.invokevirtual 36, 3, 0, 139, 0, 909), none, none, some (.bipush 36, 2, 0, 0, 0, 0), none, some (.imul, 1, 0, 0, 0, 0), some (.if_icmp .ge 37, 3, 0, 0, 0, 0), none, none, some (.aload_n 0, 1, 0, 0, 0, 0), some (.iload_n 2, 1, 0, 0, 0, 0), some (.iload_n 3, 1, 0, 0, 0, 0), some (.bipush 36, 2, 0, 0, 0, 0), none, some (.idiv, 1, 0, 0, 0, 0), some (.iload_n 3, 1, 0, 0, 0, 0), some (.bipush 36, 2, 0, 0, 0, 0), none, some (.irem, 1, 0, 0, 0, 0), some (.invokevirtual 184, 3, 0, 196, 0, 1145), none, none, some (.istore 4, 2, 0, 0, 0, 0), none, some (.iload 4, 2, 0, 0, 0, 0), none, some (.iload_n 1, 1, 0, 0, 0, 0), some (.if_icmp .le 8, 3, 0, 0, 0, 0), none, none, some (.iload 4, 2, 0, 0, 0, 0), none, some (.goto 4, 3, 0, 0, 0, 0), none, none, some (.iload_n 1, 1, 0, 0, 0, 0), some (.istore_n 1, 1, 0, 0, 0, 0), some (.iinc 3 1, 3, 0, 0, 0, 0), none, none, some (.goto (-46), 3, 0, 0, 0, 0), none, none, some (.iinc 2 1, 3, 0, 0, 0, 0), none, none, some (.goto (-64), 3, 0, 0, 0, 0), none, none, some (.iload_n 1, 1, 0, 0, 0, 0), some (.ireturn, 1, 0, 0, 0, 0)]
def xk_216 : List (Option xQ) := [some (.aload_n 0, 1, 0, 0, 0, 0), some (.bipush 7, 2, 0, 0, 0, 0), none, some (.invokevirtual 36, 3, 0, 139, 0, 909), none, none, some (.ifCond .ne 6, 3, 0, 0, 0, 0), none, none, some (.bipush (-2), 2, 0, 0, 0, 0), none, some (.ireturn, 1, 0, 0, 0, 0), some (.aload_n 0, 1, 0, 0, 0, 0), some (.invokevirtual 208, 3, 0, 215, 0, 1213), none, none, some (.istore_n 1, 1, 0, 0, 0, 0), some (.iconst 0, 1, 0, 0, 0, 0), some (.istore_n 2, 1, 0, 0, 0, 0), some (.iload_n 2, 1, 0, 0, 0, 0), some (.bipush 99, 2, 0, 0, 0, 0), none, some (.if_icmp .gt 29, 3, 0, 0, 0, 0), none, none, some (.iload_n 1, 1, 0, 0, 0, 0), some (.ifCond .ne 5, 3, 0, 0, 0, 0), none, none, some (.iload_n 2, 1, 0, 0, 0, 0), some (.ireturn, 1, 0, 0, 0, 0), some (.iload_n 1, 1, 0, 0, 0, 0), some (.bipush 100, 2, 0, 0, 0, 0), none, some (.aload_n 0, 1, 0, 0, 0, 0), some (.iconst 5, 1, 0, 0, 0, 0), some (.invokevirtual 36, 3, 0, 139, 0, 909), none, none, some (.isub, 1, 0, 0, 0, 0), some (.imul, 1, 0, 0, 0, 0), some (.bipush 100, 2, 0, 0, 0, 0), none, some (.idiv, 1, 0, 0, 0, 0), some (.istore_n 1, 1, 0, 0, 0, 0), some (.iinc 2 1, 3, 0, 0, 0, 0), none, none, some (.goto (-29), 3, 0, 0, 0, 0), none, none, some (.bipush (-4), 2, 0, 0, 0, 0), none, some (.ireturn, 1, 0, 0, 0, 0)]
def xk_217 : List (Option xQ) := [some (.iload_n 1, 1, 0, 0, 0, 0), some (.iconst 1, 1, 0, 0, 0, 0), some (.aload_n 0, 1, 0, 0, 0, 0), some (.bipush 7, 2, 0, 0, 0, 0), none, some (.invokevirtual 36, 3, 0, 139, 0, 909), none, none, some (.invokestatic 40, 3, 0, 138, 0, 1001), none, none, some (.ifCond .eq 12, 3, 0, 0, 0, 0), none, none, some (.iload_n 2, 1, 0, 0, 0, 0), some (.iconst 0, 1, 0, 0, 0, 0), some (.iconst 2, 1, 0, 0, 0, 0), some (.invokestatic 40, 3, 0, 138, 0, 1001), none, none, some (.ifCond .ne 5, 3, 0, 0, 0, 0), none, none, some (.iconst (-1), 1, 0, 0, 0, 0), some (.ireturn, 1, 0, 0, 0, 0), some (.iload_n 2, 1, 0, 0, 0, 0), some (.iconst 2, 1, 0, 0, 0, 0), some (.if_icmp .ge 21, 3, 0, 0, 0, 0), none, none, some (.iload_n 2, 1, 0, 0, 0, 0), some (.ifCond .ne 11, 3, 0, 0, 0, 0), none, none, some (.aload_n 0, 1, 0, 0, 0, 0), some (.iload_n 1, 1, 0, 0, 0, 0), some (.invokevirtual 44, 3, 0, 146, 0, 967), none, none, some (.goto 8, 3, 0, 0, 0, 0), none, none, some (.aload_n 0, 1, 0, 0, 0, 0), some (.iload_n 1, 1, 0, 0, 0, 0), some (.invokevirtual 205, 3, 0, 209, 0, 1189), none, none, some (.ireturn, 1, 0, 0, 0, 0), some (.iconst 0, 1, 0, 0, 0, 0), some (.istore_n 3, 1, 0, 0, 0, 0), some (.iconst 0, 1, 0, 0, 0, 0), some (.istore 4, 2, 0, 0, 0, 0), none, some (.iload 4, 2, 0, 0, 0, 0), none, some (.aload_n 0, 1, 0, 0, 0, 0), some (.iload_n 1, 1, 0, 0, 0, 0), some (.invokevirtual 44, 3, 0, 146, 0, 967), none, none, some (.if_icmp .ge 27, 3, 0, 0, 0, 0), none, none, some (.iload_n 3, 1, 0, 0, 0, 0), some (.aload_n 0, 1, 0, 0, 0, 0), some (.iload_n 1, 1, 0, 0, 0, 0), some (.iload 4, 2, 0, 0, 0, 0), none, some (.invokevirtual 193, 3, 0, 198, 0, 1153), none, none, some (.ifCond .ne 7, 3, 0, 0, 0, 0), none, none, some (.iconst 1, 1, 0, 0, 0, 0), some (.goto 4, 3, 0, 0, 0, 0), none, none, some (.iconst 0, 1, 0, 0, 0, 0), some (.iadd, 1, 0, 0, 0, 0), some (.istore_n 3, 1, 0, 0, 0, 0), some (.iinc 4 1, 3, 0, 0, 0, 0), none, none, some (.goto (-31), 3, 0, 0, 0, 0), none, none, some (.iload_n 3, 1, 0, 0, 0, 0), some (.ireturn, 1, 0, 0, 0, 0)]
def xk_218 : List (Option xQ) := [some (.aload_n 0, 1, 0, 0, 0, 0), some (.getfield 28, 3, 0, 11, 2, 870), none, none, some (.ifCond .ne 6, 3, 0, 0, 0, 0), none, none, some (.bipush (-2), 2, 0, 0, 0, 0), none, some (.ireturn, 1, 0, 0, 0, 0), some (.aload_n 0, 1, 0, 0, 0, 0), some (.dup, 1, 0, 0, 0, 0), some (.getfield 28, 3, 0, 11, 2, 870), none, none, some (.iconst 1, 1, 0, 0, 0, 0), some (.isub, 1, 0, 0, 0, 0), some (.putfield 28, 3, 0, 11, 2, 870), none, none, some (.iconst 0, 1, 0, 0, 0, 0), some (.istore_n 1, 1, 0, 0, 0, 0), some (.iload_n 1, 1, 0, 0, 0, 0), some (.sipush 1376, 3, 0, 0, 0, 0), none, none, some (.if_icmp .ge 30, 3, 0, 0, 0, 0), none, none, some (.aload_n 0, 1, 0, 0, 0, 0), some (.getfield 7, 3, 0, 11, 0, 868), none, none, some (.iload_n 1, 1, 0, 0, 0, 0), some (.aload_n 0, 1, 0, 0, 0, 0), some (.getfield 13, 3, 0, 11, 1, 869), none, none, some (.sipush 1376, 3, 0, 0, 0, 0), none, none, some (.aload_n 0, 1, 0, 0, 0, 0), some (.getfield 28, 3, 0, 11, 2, 870), none, none, some (.imul, 1, 0, 0, 0, 0), some (.iload_n 1, 1, 0, 0, 0, 0), some (.iadd, 1, 0, 0, 0, 0), some (.laload, 1, 0, 0, 0, 0), some (.lastore, 1, 0, 0, 0, 0), some (.iinc 1 1, 3, 0, 0, 0, 0), none, none, some (.goto (-31), 3, 0, 0, 0, 0), none, none, some (.aload_n 0, 1, 0, 0, 0, 0), some (.getfield 28, 3, 0, 11, 2, 870), none, none, some (.ireturn, 1, 0, 0, 0, 0)]
def xk_219 : List (Option xQ) := [some (.iconst 0, 1, 0, 0, 0, 0), some (.istore_n 1, 1, 0, 0, 0, 0), some (.iload_n 1, 1, 0, 0, 0, 0), some (.sipush 1376, 3, 0, 0, 0, 0), none, none, some (.if_icmp .ge 21, 3, 0, 0, 0, 0), none, none, some (.aload_n 0, 1, 0, 0, 0, 0), some (.getfield 16, 3, 0, 11, 3, 871), none, none, some (.iload_n 1, 1, 0, 0, 0, 0), some (.aload_n 0, 1, 0, 0, 0, 0), some (.getfield 7, 3, 0, 11, 0, 868), none, none, some (.iload_n 1, 1, 0, 0, 0, 0), some (.laload, 1, 0, 0, 0, 0), some (.lastore, 1, 0, 0, 0, 0), some (.iinc 1 1, 3, 0, 0, 0, 0), none, none, some (.goto (-22), 3, 0, 0, 0, 0), none, none, some (.aload_n 0, 1, 0, 0, 0, 0), some (.iconst 1, 1, 0, 0, 0, 0), some (.putfield 211, 3, 0, 11, 4, 872), none, none, some (.aload_n 0, 1, 0, 0, 0, 0), some (.iconst 0, 1, 0, 0, 0, 0), some (.invokevirtual 36, 3, 0, 139, 0, 909), none, none, some (.ireturn, 1, 0, 0, 0, 0)]
def xk_220 : List (Option xQ) := [some (.aload_n 0, 1, 0, 0, 0, 0), some (.getfield 211, 3, 0, 11, 4, 872), none, none, some (.ifCond .ne 6, 3, 0, 0, 0, 0), none, none, some (.bipush (-2), 2, 0, 0, 0, 0), none, some (.ireturn, 1, 0, 0, 0, 0), some (.aload_n 0, 1, 0, 0, 0, 0), some (.invokevirtual 110, 3, 0, 140, 0, 913), none, none, some (.iconst 0, 1, 0, 0, 0, 0), some (.istore_n 1, 1, 0, 0, 0, 0), some (.iload_n 1, 1, 0, 0, 0, 0), some (.sipush 1376, 3, 0, 0, 0, 0), none, none, some (.if_icmp .ge 21, 3, 0, 0, 0, 0), none, none, some (.aload_n 0, 1, 0, 0, 0, 0), some (.getfield 7, 3, 0, 11, 0, 868), none, none, some (.iload_n 1, 1, 0, 0, 0, 0), some (.aload_n 0, 1, 0, 0, 0, 0), some (.getfield 16, 3, 0, 11, 3, 871), none, none, some (.iload_n 1, 1, 0, 0, 0, 0), some (.laload, 1, 0, 0, 0, 0), some (.lastore, 1, 0, 0, 0, 0), some (.iinc 1 1, 3, 0, 0, 0, 0), none, none, some (.goto (-22), 3, 0, 0, 0, 0), none, none, some (.aload_n 0, 1, 0, 0, 0, 0), some (.iconst 0, 1, 0, 0, 0, 0), some (.invokevirtual 36, 3, 0, 139, 0, 909), none, none, some (.ireturn, 1, 0, 0, 0, 0)]
def xk_221 : List (Option xQ) := [some (.new 7, 3, 0, 10, 0, 79), none, none, some (.dup, 1, 0, 0, 0, 0), some (.invokespecial 9, 3, 0, 96, 0, 81), none, none, some (.astore_n 1, 1, 0, 0, 0, 0), some (.new 10, 3, 0, 11, 0, 861), none, none, some (.dup, 1, 0, 0, 0, 0), some (.invokespecial 12, 3, 0, 137, 0, 863), none, none, some (.astore_n 2, 1, 0, 0, 0, 0), some (.iconst 0, 1, 0, 0, 0, 0), some (.istore_n 3, 1, 0, 0, 0, 0), some (.iload_n 3, 1, 0, 0, 0, 0), some (.aload_n 0, 1, 0, 0, 0, 0), some (.arraylength, 1, 0, 0, 0, 0), some (.iconst 4, 1, 0, 0, 0, 0), some (.isub, 1, 0, 0, 0, 0), some (.if_icmp .gt 850, 3, 0, 0, 0, 0), none, none, some (.aload_n 0, 1, 0, 0, 0, 0), some (.iload_n 3, 1, 0, 0, 0, 0), some (.iaload, 1, 0, 0, 0, 0), some (.bipush 63, 2, 0, 0, 0, 0), none, some (.iand, 1, 0, 0, 0, 0), some (.tableswitch 835 0 32 #[148, 161, 174, 187, 220, 243, 256, 269, 292, 305, 338, 361, 374, 397, 410, 433, 466, 509, 542, 575, 588, 601, 614, 637, 678, 691, 714, 727, 750, 763, 796, 809, 822], 148, 0, 0, 0, 0), none, none, none, none, none, none, none, none, none, none, none, none, none, none, none, none, none, none, none, none, none, none, none, none, none, none, none, none, none, none, none, none, none, none, none, none, none, none, none, none, none, none, none, none, none, none, none, none, none, none, none, none, none, none, none, none, none, none, none, none, none, none, none, none, none, none, none, none, none, none, none, none, none, none, none, none, none, none, none, none, none, none, none, none, none, none, none, none, none, none, none, none, none, none, none, none, none, none, none, none, none, none, none, none, none, none, none, none, none, none, none, none, none, none, none, none, none, none, none, none, none, none, none, none, none, none, none, none, none, none, none, none, none, none, none, none, none, none, none, none, none, none, none, none, none, none, none, some (.aload_n 1, 1, 0, 0, 0, 0), some (.invokevirtual 13, 3, 0, 97, 0, 314), none, none, some (.aload_n 2, 1, 0, 0, 0, 0), some (.invokevirtual 17, 3, 0, 169, 0, 897), none, none, some (.if_icmp .eq 679, 3, 0, 0, 0, 0), none, none, some (.iconst 0, 1, 0, 0, 0, 0), some (.ireturn, 1, 0, 0, 0, 0), some (.aload_n 1, 1, 0, 0, 0, 0), some (.invokevirtual 18, 3, 0, 98, 0, 453), none, none, some (.aload_n 2, 1, 0, 0, 0, 0), some (.invokevirtual 21, 3, 0, 170, 0, 976), none, none, some (.if_icmp .eq 666, 3, 0, 0, 0, 0), none, none, some (.iconst 0, 1, 0, 0, 0, 0), some (.ireturn, 1, 0, 0, 0, 0), some (.aload_n 1, 1, 0, 0, 0, 0), some (.invokevirtual 22, 3, 0, 99, 0, 461), none, none, some (.aload_n 2, 1, 0, 0, 0, 0), some (.invokevirtual 25, 3, 0, 171, 0, 989), none, none, some (.if_icmp .eq 653, 3, 0, 0, 0, 0), none, none, some (.iconst 0, 1, 0, 0, 0, 0), some (.ireturn, 1, 0, 0, 0, 0), some (.aload_n 1, 1, 0, 0, 0, 0), some (.aload_n 0, 1, 0, 0, 0, 0), some (.iload_n 3, 1, 0, 0, 0, 0), some (.iconst 1, 1, 0, 0, 0, 0), some (.iadd, 1, 0, 0, 0, 0), some (.iaload, 1, 0, 0, 0, 0), some (.aload_n 0, 1, 0, 0, 0, 0), some (.iload_n 3, 1, 0, 0, 0, 0), some (.iconst 2, 1, 0, 0, 0, 0), some (.iadd, 1, 0, 0, 0, 0), some (.iaload, 1, 0, 0, 0, 0), some (.invokevirtual 26, 3, 0, 100, 0, 469), none, none, some (.aload_n 2, 1, 0, 0, 0, 0), some (.aload_n 0, 1, 0, 0, 0, 0), some (.iload_n 3, 1, 0, 0, 0, 0), some (.iconst 1, 1, 0, 0, 0, 0), some (.iadd, 1, 0, 0, 0, 0), some (.iaload, 1, 0, 0, 0, 0), some (.aload_n 0, 1, 0, 0, 0, 0), some (.iload_n 3, 1, 0, 0, 0, 0), some (.iconst 2, 1, 0, 0, 0, 0), some (.iadd, 1, 0, 0, 0, 0), some (.iaload, 1, 0, 0, 0, 0), some (.invokevirtual 30, 3, 0, 172, 0, 993), none, none, some (.if_icmp .eq 620, 3, 0, 0, 0, 0), none, none, some (.iconst 0, 1, 0, 0, 0, 0), some (.ireturn, 1, 0, 0, 0, 0), some (.aload_n 1, 1, 0, 0, 0, 0), some (.aload_n 0, 1, 0, 0, 0, 0), some (.iload_n 3, 1, 0, 0, 0, 0), some (.iconst 1, 1, 0, 0, 0, 0), some (.iadd, 1, 0, 0, 0, 0), some (.iaload, 1, 0, 0, 0, 0), some (.invokevirtual 31, 3, 0, 101, 0, 486), none, none, some (.aload_n 2, 1, 0, 0, 0, 0), some (.aload_n 0, 1, 0, 0, 0, 0), some (.iload_n 3, 1, 0, 0, 0, 0), some (.iconst 1, 1, 0, 0, 0, 0), some (.iadd, 1, 0, 0, 0, 0), some (.iaload, 1, 0, 0, 0, 0), some (.invokevirtual 35, 3, 0, 173, 0, 1008), none, none, some (.if_icmp .eq 597, 3, 0, 0, 0, 0), none, none, some (.iconst 0, 1, 0, 0, 0, 0), some (.ireturn, 1, 0, 0, 0, 0), some (.aload_n 1, 1, 0, 0, 0, 0), some (.invokevirtual 36, 3, 0, 102, 0, 517), none, none, some (.aload_n 2, 1, 0, 0, 0, 0), some (.invokevirtual 39, 3, 0, 174, 0, 1025), none, none, some (.if_icmp .eq 584, 3, 0, 0, 0, 0), none, none, some (.iconst 0, 1, 0, 0, 0, 0), some (.ireturn, 1, 0, 0, 0, 0), some (.aload_n 1, 1, 0, 0, 0, 0), some (.invokevirtual 40, 3, 0, 103, 0, 525), none, none, some (.aload_n 2, 1, 0, 0, 0, 0), some (.invokevirtual 43, 3, 0, 175, 0, 1037), none, none, some (.if_icmp .eq 571, 3, 0, 0, 0, 0), none, none, some (.iconst 0, 1, 0, 0, 0, 0), some (.ireturn, 1, 0, 0, 0, 0), some (.aload_n 1, 1, 0, 0, 0, 0), some (.aload_n 0, 1, 0, 0, 0, 0), some (.iload_n 3, 1, 0, 0, 0, 0), some (.iconst 1, 1, 0, 0, 0, 0), some (.iadd, 1, 0, 0, 0, 0), some (.iaload, 1, 0, 0, 0, 0), some (.invokevirtual 44, 3, 0, 104, 0, 533), none, none, some (.aload_n 2, 1, 0, 0, 0, 0), some (.aload_n 0, 1, 0, 0, 0, 0), some (.iload_n 3, 1, 0, 0, 0, 0), some (.iconst 1, 1, 0, 0, 0, 0), some (.iadd, 1, 0, 0, 0, 0), some (.iaload, 1, 0, 0, 0, 0), some (.invokevirtual 47, 3, 0, 176, 0, 1049), none, none, some (.if_icmp .eq 548, 3, 0, 0, 0, 0), none, none, some (.iconst 0, 1, 0, 0, 0, 0), some (.ireturn, 1, 0, 0, 0, 0), some (.aload_n 1, 1, 0, 0, 0, 0), some (.invokevirtual 48, 3, 0, 105, 0, 541), none, none, some (.aload_n 2, 1, 0, 0, 0, 0), some (.invokevirtual 51, 3, 0, 177, 0, 1057), none, none, some (.if_icmp .eq 535, 3, 0, 0, 0, 0), none, none, some (.iconst 0, 1, 0, 0, 0, 0), some (.ireturn, 1, 0, 0, 0, 0), some (.aload_n 1, 1, 0, 0, 0, 0), some (.aload_n 0, 1, 0, 0, 0, 0), some (.iload_n 3, 1, 0, 0, 0, 0), some (.iconst 1, 1, 0, 0, 0, 0), some (.iadd, 1, 0, 0, 0, 0), some (.iaload, 1, 0, 0, 0, 0), some (.aload_n 0, 1, 0, 0, 0, 0), some (.iload_n 3, 1, 0, 0, 0, 0), some (.iconst 2, 1, 0, 0, 0, 0), some (.iadd, 1, 0, 0, 0, 0), some (.iaload, 1, 0, 0, 0, 0), some (.invokevirtual 52, 3, 0, 106, 0, 549), none, none, some (.aload_n 2, 1, 0, 0, 0, 0), some (.aload_n 0, 1, 0, 0, 0, 0), some (.iload_n 3, 1, 0, 0, 0, 0), some (.iconst 1, 1, 0, 0, 0, 0), some (.iadd, 1, 0, 0, 0, 0), some (.iaload, 1, 0, 0, 0, 0), some (.aload_n 0, 1, 0, 0, 0, 0), some (.iload_n 3, 1, 0, 0, 0, 0), some (.iconst 2, 1, 0, 0, 0, 0), some (.iadd, 1, 0, 0, 0, 0), some (.iaload, 1, 0, 0, 0, 0), some (.invokevirtual 55, 3, 0, 178, 0, 1061), none, none, some (.if_icmp .eq 502, 3, 0, 0, 0, 0), none, none, some (.iconst 0, 1, 0, 0, 0, 0), some (.ireturn, 1, 0, 0, 0, 0), some (.aload_n 1, 1, 0, 0, 0, 0), some (.aload_n 0, 1, 0, 0, 0, 0), some (.iload_n 3, 1, 0, 0, 0, 0), some (.iconst 1, 1, 0, 0, 0, 0), some (.iadd, 1, 0, 0, 0, 0), some (.iaload, 1, 0, 0, 0, 0), some (.invokevirtual 56, 3, 0, 107, 0, 564), none, none, some (.aload_n 2, 1, 0, 0, 0, 0), some (.aload_n 0, 1, 0, 0, 0, 0), some (.iload_n 3, 1, 0, 0, 0, 0), some (.iconst 1, 1, 0, 0, 0, 0), some (.iadd, 1, 0, 0, 0, 0), some (.iaload, 1, 0, 0, 0, 0), some (.invokevirtual 59, 3, 0, 179, 0, 1065), none, none, some (.if_icmp .eq 479, 3, 0, 0, 0, 0), none, none, some (.iconst 0, 1, 0, 0, 0, 0), some (.ireturn, 1, 0, 0, 0, 0), some (.aload_n 1, 1, 0, 0, 0, 0), some (.invokevirtual 60, 3, 0, 108, 0, 572), none, none, some (.aload_n 2, 1, 0, 0, 0, 0), some (.invokevirtual 63, 3, 0, 180, 0, 1069), none, none, some (.if_icmp .eq 466, 3, 0, 0, 0, 0), none, none, some (.iconst 0, 1, 0, 0, 0, 0), some (.ireturn, 1, 0, 0, 0, 0), some (.aload_n 1, 1, 0, 0, 0, 0), some (.aload_n 0, 1, 0, 0, 0, 0), some (.iload_n 3, 1, 0, 0, 0, 0), some (.iconst 1, 1, 0, 0, 0, 0), some (.iadd, 1, 0, 0, 0, 0), some (.iaload, 1, 0, 0, 0, 0), some (.invokevirtual 64, 3, 0, 109, 0, 580), none, none, some (.aload_n 2, 1, 0, 0, 0, 0), some (.aload_n 0, 1, 0, 0, 0, 0), some (.iload_n 3, 1, 0, 0, 0, 0), some (.iconst 1, 1, 0, 0, 0, 0), some (.iadd, 1, 0, 0, 0, 0), some (.iaload, 1, 0, 0, 0, 0), some (.invokevirtual 67, 3, 0, 188, 0, 1073), none, none, some (.if_icmp .eq 443, 3, 0, 0, 0, 0), none, none, some (.iconst 0, 1, 0, 0, 0, 0), some (.ireturn, 1, 0, 0, 0, 0), some (.aload_n 1, 1, 0, 0, 0, 0), some (.invokevirtual 68, 3, 0, 110, 0, 620), none, none, some (.aload_n 2, 1, 0, 0, 0, 0), some (.invokevirtual 71, 3, 0, 191, 0, 1101), none, none, some (.if_icmp .eq 430, 3, 0, 0, 0, 0), none, none, some (.iconst 0, 1, 0, 0, 0, 0), some (.ireturn, 1, 0, 0, 0, 0), some (.aload_n 1, 1, 0, 0, 0, 0), some (.aload_n 0, 1, 0, 0, 0, 0), some (.iload_n 3, 1, 0, 0, 0, 0), some (.iconst 1, 1, 0, 0, 0, 0), some (.iadd, 1, 0, 0, 0, 0), some (.iaload, 1, 0, 0, 0, 0), some (.invokevirtual 72, 3, 0, 111, 0, 659), none, none, some (.aload_n 2, 1, 0, 0, 0, 0), some (.aload_n 0, 1, 0, 0, 0, 0), some (.iload_n 3, 1, 0, 0, 0, 0), some (.iconst 1, 1, 0, 0, 0, 0), some (.iadd, 1, 0, 0, 0, 0), some (.iaload, 1, 0, 0, 0, 0), some (.invokevirtual 75, 3, 0, 192, 0, 1117), none, none, some (.if_icmp .eq 407, 3, 0, 0, 0, 0), none, none, some (.iconst 0, 1, 0, 0, 0, 0), some (.ireturn, 1, 0, 0, 0, 0), some (.aload_n 1, 1, 0, 0, 0, 0), some (.aload_n 0, 1, 0, 0, 0, 0), some (.iload_n 3, 1, 0, 0, 0, 0), some (.iconst 1, 1, 0, 0, 0, 0), some (.iadd, 1, 0, 0, 0, 0), some (.iaload, 1, 0, 0, 0, 0), some (.aload_n 0, 1, 0, 0, 0, 0), some (.iload_n 3, 1, 0, 0, 0, 0), some (.iconst 2, 1, 0, 0, 0, 0), some (.iadd, 1, 0, 0, 0, 0), some (.iaload, 1, 0, 0, 0, 0), some (.invokevirtual 76, 3, 0, 112, 0, 667), none, none, some (.aload_n 2, 1, 0, 0, 0, 0), some (.aload_n 0, 1, 0, 0, 0, 0), some (.iload_n 3, 1, 0, 0, 0, 0), some (.iconst 1, 1, 0, 0, 0, 0), some (.iadd, 1, 0, 0, 0, 0), some (.iaload, 1, 0, 0, 0, 0), some (.aload_n 0, 1, 0, 0, 0, 0), some (.iload_n 3, 1, 0, 0, 0, 0), some (.iconst 2, 1, 0, 0, 0, 0), some (.iadd, 1, 0, 0, 0, 0), some (.iaload, 1, 0, 0, 0, 0), some (.invokevirtual 79, 3, 0, 194, 0, 1121), none, none, some (.if_icmp .eq 374, 3, 0, 0, 0, 0), none, none, some (.iconst 0, 1, 0, 0, 0, 0), some (.ireturn, 1, 0, 0, 0, 0), some (.aload_n 1, 1, 0, 0, 0, 0), some (.aload_n 0, 1, 0, 0, 0, 0), some (.iload_n 3, 1, 0, 0, 0, 0), some (.iconst 1, 1, 0, 0, 0, 0), some (.iadd, 1, 0, 0, 0, 0), some (.iaload, 1, 0, 0, 0, 0), some (.aload_n 0, 1, 0, 0, 0, 0), some (.iload_n 3, 1, 0, 0, 0, 0), some (.iconst 2, 1, 0, 0, 0, 0), some (.iadd, 1, 0, 0, 0, 0), some (.iaload, 1, 0, 0, 0, 0), some (.aload_n 0, 1, 0, 0, 0, 0), some (.iload_n 3, 1, 0, 0, 0, 0), some (.iconst 3, 1, 0, 0, 0, 0), some (.iadd, 1, 0, 0, 0, 0), some (.iaload, 1, 0, 0, 0, 0), some (.invokevirtual 80, 3, 0, 113, 0, 686), none, none, some (.aload_n 2, 1, 0, 0, 0, 0), some (.aload_n 0, 1, 0, 0, 0, 0), some (.iload_n 3, 1, 0, 0, 0, 0), some (.iconst 1, 1, 0, 0, 0, 0), some (.iadd, 1, 0, 0, 0, 0), some (.iaload, 1, 0, 0, 0, 0), some (.aload_n 0, 1, 0, 0, 0, 0), some (.iload_n 3, 1, 0, 0, 0, 0), some (.iconst 2, 1, 0, 0, 0, 0), some (.iadd, 1, 0, 0, 0, 0), some (.iaload, 1, 0, 0, 0, 0), some (.aload_n 0, 1, 0, 0, 0, 0), some (.iload_n 3, 1, 0, 0, 0, 0), some (.iconst 3, 1, 0, 0, 0, 0), some (.iadd, 1, 0, 0, 0, 0), some (.iaload, 1, 0, 0, 0, 0), some (.invokevirtual 84, 3, 0, 195, 0, 1129), none, none, some (.if_icmp .eq 331, 3, 0, 0, 0, 0), none, none, some (.iconst 0, 1, 0, 0, 0, 0), some (.ireturn, 1, 0, 0, 0, 0), some (.aload_n 1, 1, 0, 0, 0, 0), some (.aload_n 0, 1, 0, 0, 0, 0), some (.iload_n 3, 1, 0, 0, 0, 0), some (.iconst 1, 1, 0, 0, 0, 0), some (.iadd, 1, 0, 0, 0, 0), some (.iaload, 1, 0, 0, 0, 0), some (.aload_n 0, 1, 0, 0, 0, 0), some (.iload_n 3, 1, 0, 0, 0, 0), some (.iconst 2, 1, 0, 0, 0, 0), some (.iadd, 1, 0, 0, 0, 0), some (.iaload, 1, 0, 0, 0, 0), some (.invokevirtual 85, 3, 0, 114, 0, 692), none, none, some (.aload_n 2, 1, 0, 0, 0, 0), some (.aload_n 0, 1, 0, 0, 0, 0), some (.iload_n 3, 1, 0, 0, 0, 0), some (.iconst 1, 1, 0, 0, 0, 0), some (.iadd, 1, 0, 0, 0, 0), some (.iaload, 1, 0, 0, 0, 0), some (.aload_n 0, 1, 0, 0, 0, 0), some (.iload_n 3, 1, 0, 0, 0, 0), some (.iconst 2, 1, 0, 0, 0, 0), some (.iadd, 1, 0, 0, 0, 0), some (.iaload, 1, 0, 0, 0, 0), some (.invokevirtual 88, 3, 0, 200, 0, 1133), none, none, some (.if_icmp .eq 298, 3, 0, 0, 0, 0), none, none, some (.iconst 0, 1, 0, 0, 0, 0), some (.ireturn, 1, 0, 0, 0, 0), some (.aload_n 1, 1, 0, 0, 0, 0), some (.aload_n 0, 1, 0, 0, 0, 0), some (.iload_n 3, 1, 0, 0, 0, 0), some (.iconst 1, 1, 0, 0, 0, 0), some (.iadd, 1, 0, 0, 0, 0), some (.iaload, 1, 0, 0, 0, 0), some (.aload_n 0, 1, 0, 0, 0, 0), some (.iload_n 3, 1, 0, 0, 0, 0), some (.iconst 2, 1, 0, 0, 0, 0), some (.iadd, 1, 0, 0, 0, 0), some (.iaload, 1, 0, 0, 0, 0), some (.invokevirtual 89, 3, 0, 115, 0, 716), none, none, some (.aload_n 2, 1, 0, 0, 0, 0), some (.aload_n 0, 1, 0, 0, 0, 0), some (.iload_n 3, 1, 0, 0, 0, 0), some (.iconst 1, 1, 0, 0, 0, 0), some (.iadd, 1, 0, 0, 0, 0), some (.iaload, 1, 0, 0, 0, 0), some (.aload_n 0, 1, 0, 0, 0, 0), some (.iload_n 3, 1, 0, 0, 0, 0), some (.iconst 2, 1, 0, 0, 0, 0), some (.iadd, 1, 0, 0, 0, 0), some (.iaload, 1, 0, 0, 0, 0), some (.invokevirtual 92, 3, 0, 202, 0, 1149), none, none, some (.if_icmp .eq 265, 3, 0, 0, 0, 0), none, none, some (.iconst 0, 1, 0, 0, 0, 0), some (.ireturn, 1, 0, 0, 0, 0), some (.aload_n 1, 1, 0, 0, 0, 0), some (.invokevirtual 93, 3, 0, 116, 0, 741), none, none, some (.aload_n 2, 1, 0, 0, 0, 0), some (.invokevirtual 96, 3, 0, 203, 0, 1161), none, none, some (.if_icmp .eq 252, 3, 0, 0, 0, 0), none, none, some (.iconst 0, 1, 0, 0, 0, 0), some (.ireturn, 1, 0, 0, 0, 0), some (.aload_n 1, 1, 0, 0, 0, 0), some (.invokevirtual 97, 3, 0, 117, 0, 752), none, none, some (.aload_n 2, 1, 0, 0, 0, 0), some (.invokevirtual 100, 3, 0, 205, 0, 1165), none, none, some (.if_icmp .eq 239, 3, 0, 0, 0, 0), none, none, some (.iconst 0, 1, 0, 0, 0, 0), some (.ireturn, 1, 0, 0, 0, 0), some (.aload_n 1, 1, 0, 0, 0, 0), some (.invokevirtual 101, 3, 0, 118, 0, 764), none, none, some (.aload_n 2, 1, 0, 0, 0, 0), some (.invokevirtual 104, 3, 0, 207, 0, 1173), none, none, some (.if_icmp .eq 226, 3, 0, 0, 0, 0), none, none, some (.iconst 0, 1, 0, 0, 0, 0), some (.ireturn, 1, 0, 0, 0, 0), some (.aload_n 1, 1, 0, 0, 0, 0), some (.aload_n 0, 1, 0, 0, 0, 0), some (.iload_n 3, 1, 0, 0, 0, 0), some (.iconst 1, 1, 0, 0, 0, 0), some (.iadd, 1, 0, 0, 0, 0), some (.iaload, 1, 0, 0, 0, 0), some (.invokevirtual 105, 3, 0, 119, 0, 783), none, none, some (.aload_n 2, 1, 0, 0, 0, 0), some (.aload_n 0, 1, 0, 0, 0, 0), some (.iload_n 3, 1, 0, 0, 0, 0), some (.iconst 1, 1, 0, 0, 0, 0), some (.iadd, 1, 0, 0, 0, 0), some (.iaload, 1, 0, 0, 0, 0), some (.invokevirtual 108, 3, 0, 208, 0, 1181), none, none, some (.if_icmp .eq 203, 3, 0, 0, 0, 0), none, none, some (.iconst 0, 1, 0, 0, 0, 0), some (.ireturn, 1, 0, 0, 0, 0), some (.aload_n 1, 1, 0, 0, 0, 0), some (.invokevirtual 109, 3, 0, 120, 0, 796), none, none, some (.dstore 4, 2, 0, 0, 0, 0), none, some (.aload_n 2, 1, 0, 0, 0, 0), some (.invokevirtual 113, 3, 0, 210, 0, 1185), none, none, some (.dstore 6, 2, 0, 0, 0, 0), none, some (.dload 4, 2, 0, 0, 0, 0), none, some (.dload 6, 2, 0, 0, 0, 0), none, some (.dcmp .l, 1, 0, 0, 0, 0), some (.ifCond .eq 21, 3, 0, 0, 0, 0), none, none, some (.dload 4, 2, 0, 0, 0, 0), none, some (.dload 4, 2, 0, 0, 0, 0), none, some (.dcmp .l, 1, 0, 0, 0, 0), some (.ifCond .eq 11, 3, 0, 0, 0, 0), none, none, some (.dload 6, 2, 0, 0, 0, 0), none, some (.dload 6, 2, 0, 0, 0, 0), none, some (.dcmp .l, 1, 0, 0, 0, 0), some (.ifCond .ne 5, 3, 0, 0, 0, 0), none, none, some (.iconst 0, 1, 0, 0, 0, 0), some (.ireturn, 1, 0, 0, 0, 0), some (.goto 160, 3, 0, 0, 0, 0), none, none, some (.aload_n 1, 1, 0, 0, 0, 0), some (.invokevirtual 114, 3, 0, 121, 0, 804), none, none, some (.aload_n 2, 1, 0, 0, 0, 0), some (.invokevirtual 117, 3, 0, 211, 0, 1193), none, none, some (.if_icmp .eq 149, 3, 0, 0, 0, 0), none, none, some (.iconst 0, 1, 0, 0, 0, 0), some (.ireturn, 1, 0, 0, 0, 0), some (.aload_n 1, 1, 0, 0, 0, 0), some (.aload_n 0, 1, 0, 0, 0, 0), some (.iload_n 3, 1, 0, 0, 0, 0), some (.iconst 1, 1, 0, 0, 0, 0), some (.iadd, 1, 0, 0, 0, 0), some (.iaload, 1, 0, 0, 0, 0), some (.invokevirtual 118, 3, 0, 122, 0, 812), none, none, some (.aload_n 2, 1, 0, 0, 0, 0), some (.aload_n 0, 1, 0, 0, 0, 0), some (.iload_n 3, 1, 0, 0, 0, 0), some (.iconst 1, 1, 0, 0, 0, 0), some (.iadd, 1, 0, 0, 0, 0), some (.iaload, 1, 0, 0, 0, 0), some (.invokevirtual 121, 3, 0, 212, 0, 1197), none, none, some (.if_icmp .eq 126, 3, 0, 0, 0, 0), none, none, some (.iconst 0, 1, 0, 0, 0, 0), some (.ireturn, 1, 0, 0, 0, 0), some (.aload_n 1, 1, 0, 0, 0, 0), some (.invokevirtual 122, 3, 0, 123, 0, 816), none, none, some (.aload_n 2, 1, 0, 0, 0, 0), some (.invokevirtual 125, 3, 0, 213, 0, 1201), none, none, some (.if_icmp .eq 113, 3, 0, 0, 0, 0), none, none, some (.iconst 0, 1, 0, 0, 0, 0), some (.ireturn, 1, 0, 0, 0, 0), some (.aload_n 1, 1, 0, 0, 0, 0), some (.aload_n 0, 1, 0, 0, 0, 0), some (.iload_n 3, 1, 0, 0, 0, 0), some (.iconst 1, 1, 0, 0, 0, 0), some (.iadd, 1, 0, 0, 0, 0), some (.iaload, 1, 0, 0, 0, 0), some (.invokevirtual 126, 3, 0, 124, 0, 820), none, none, some (.aload_n 2, 1, 0, 0, 0, 0), some (.aload_n 0, 1, 0, 0, 0, 0), some (.iload_n 3, 1, 0, 0, 0, 0), some (.iconst 1, 1, 0, 0, 0, 0), some (.iadd, 1, 0, 0, 0, 0), some (.iaload, 1, 0, 0, 0, 0), some (.invokevirtual 129, 3, 0, 214, 0, 1205), none, none, some (.if_icmp .eq 90, 3, 0, 0, 0, 0), none, none, some (.iconst 0, 1, 0, 0, 0, 0), some (.ireturn, 1, 0, 0, 0, 0), some (.aload_n 1, 1, 0, 0, 0, 0), some (.invokevirtual 130, 3, 0, 125, 0, 825), none, none, some (.aload_n 2, 1, 0, 0, 0, 0), some (.invokevirtual 133, 3, 0, 216, 0, 1209), none, none, some (.if_icmp .eq 77, 3, 0, 0, 0, 0), none, none, some (.iconst 0, 1, 0, 0, 0, 0), some (.ireturn, 1, 0, 0, 0, 0), some (.aload_n 1, 1, 0, 0, 0, 0), some (.aload_n 0, 1, 0, 0, 0, 0), some (.iload_n 3, 1, 0, 0, 0, 0), some (.iconst 1, 1, 0, 0, 0, 0), some (.iadd, 1, 0, 0, 0, 0), some (.iaload, 1, 0, 0, 0, 0), some (.aload_n 0, 1, 0, 0, 0, 0), some (.iload_n 3, 1, 0, 0, 0, 0), some (.iconst 2, 1, 0, 0, 0, 0), some (.iadd, 1, 0, 0, 0, 0), some (.iaload, 1, 0, 0, 0, 0), some (.invokevirtual 134, 3, 0, 126, 0, 836), none, none, some (.aload_n 2, 1, 0, 0, 0, 0), some (.aload_n 0, 1, 0, 0, 0, 0), some (.iload_n 3, 1, 0, 0, 0, 0), some (.iconst 1, 1, 0, 0, 0, 0), some (.iadd, 1, 0, 0, 0, 0), some (.iaload, 1, 0, 0, 0, 0), some (.aload_n 0, 1, 0, 0, 0, 0), some (.iload_n 3, 1, 0, 0, 0, 0), some (.iconst 2, 1, 0, 0, 0, 0), some (.iadd, 1, 0, 0, 0, 0), some (.iaload, 1, 0, 0, 0, 0), some (.invokevirtual 137, 3, 0, 217, 0, 1217), none, none, some (.if_icmp .eq 44, 3, 0, 0, 0, 0), none, none, some (.iconst 0, 1, 0, 0, 0, 0), some (.ireturn, 1, 0, 0, 0, 0), some (.aload_n 1, 1, 0, 0, 0, 0), some (.invokevirtual 138, 3, 0, 127, 0, 844), none, none, some (.aload_n 2, 1, 0, 0, 0, 0), some (.invokevirtual 141, 3, 0, 218, 0, 1221), none, none, some (.if_icmp .eq 31, 3, 0, 0, 0, 0), none, none, some (.iconst 0, 1, 0, 0, 0, 0), some (.ireturn, 1, 0, 0, 0, 0), some (.aload_n 1, 1, 0, 0, 0, 0), some (.invokevirtual 142, 3, 0, 128, 0, 853), none, none, some (.aload_n 2, 1, 0, 0, 0, 0), some (.invokevirtual 145, 3, 0, 219, 0, 1225), none, none, some (.if_icmp .eq 18, 3, 0, 0, 0, 0), none, none, some (.iconst 0, 1, 0, 0, 0, 0), some (.ireturn, 1, 0, 0, 0, 0), some (.aload_n 1, 1, 0, 0, 0, 0), some (.invokevirtual 146, 3, 0, 129, 0, 857), none, none, some (.aload_n 2, 1, 0, 0, 0, 0), some (.invokevirtual 149, 3, 0, 220, 0, 1229), none, none, some (.if_icmp .eq 5, 3, 0, 0, 0, 0), none, none, some (.iconst 0, 1, 0, 0, 0, 0), some (.ireturn, 1, 0, 0, 0, 0), some (.iinc 3 4, 3, 0, 0, 0, 0), none, none, some (.goto (-852), 3, 0, 0, 0, 0), none, none, some (.iconst 1, 1, 0, 0, 0, 0), some (.ireturn, 1, 0, 0, 0, 0)]
def xkall : List (List (Option xQ)) := [xk_0, xk_1, xk_2, xk_3, xk_4, xk_5, xk_6, xk_7, xk_8, xk_9, xk_10, xk_11, xk_12, xk_13, xk_14, xk_15, xk_16, xk_17, xk_18, xk_19, xk_20, xk_21, xk_22, xk_23, xk_24, xk_25, xk_26, xk_27, xk_28, xk_29, xk_30, xk_31, xk_32, xk_33, xk_34, xk_35, xk_36, xk_37, xk_38, xk_39, xk_40, xk_41, xk_42, xk_43, xk_44, xk_45, xk_46, xk_47, xk_48, xk_49, xk_50, xk_51, xk_52, xk_53, xk_54, xk_55, xk_56, xk_57, xk_58, xk_59, xk_60, xk_61, xk_62, xk_63, xk_64, xk_65, xk_66, xk_67, xk_68, xk_69, xk_70, xk_71, xk_72, xk_73, xk_74, xk_75, xk_76, xk_77, xk_78, xk_79, xk_80, xk_81, xk_82, xk_83, xk_84, xk_85, xk_86, xk_87, xk_88, xk_89, xk_90, xk_91, xk_92, xk_93, xk_94, xk_95, xk_96, xk_97, xk_98, xk_99, xk_100, xk_101, xk_102, xk_103, xk_104, xk_105, xk_106, xk_107, xk_108, xk_109, xk_110, xk_111, xk_112, xk_113, xk_114, xk_115, xk_116, xk_117, xk_118, xk_119, xk_120, xk_121, xk_122, xk_123, xk_124, xk_125, xk_126, xk_127, xk_128, xk_129, xk_130, xk_131, xk_132, xk_133, xk_134, xk_135, xk_136, xk_137, xk_138, xk_139, xk_140, xk_141, xk_142, xk_143, xk_144, xk_145, xk_146, xk_147, xk_148, xk_149, xk_150, xk_151, xk_152, xk_153, xk_154, xk_155, xk_156, xk_157, xk_158, xk_159, xk_160, xk_161, xk_162, xk_163, xk_164, xk_165, xk_166, xk_167, xk_168, xk_169, xk_170, xk_171, xk_172, xk_173, xk_174, xk_175, xk_176, xk_177, xk_178, xk_179, xk_180, xk_181, xk_182, xk_183, xk_184, xk_185, xk_186, xk_187, xk_188, xk_189, xk_190, xk_191, xk_192, xk_193, xk_194, xk_195, xk_196, xk_197, xk_198, xk_199, xk_200, xk_201, xk_202, xk_203, xk_204, xk_205, xk_206, xk_207, xk_208, xk_209, xk_210, xk_211, xk_212, xk_213, xk_214, xk_215, xk_216, xk_217, xk_218, xk_219, xk_220, xk_221]
/-- name, bytes, maxLocals, return type, parameters, 0 static 1 instance 2 constructor, class -/
abbrev xI : Type := MethodName × ByteArray × Nat × Option FieldType × Nat × Nat × Nat
def xi_0 : xI := (yX0_init, cX0_init, 1, none, 0, 2, 0)
def xi_1 : xI := (yX0_listen, cX0_listen, 9, none, 3, 1, 0)
def xi_2 : xI := (yX0_ringOf, cX0_ringOf, 2, (some .int), 1, 1, 0)
def xi_3 : xI := (yX0_howManyKeys, cX0_howManyKeys, 6, (some .int), 0, 1, 0)
def xi_4 : xI := (yX0_sum, cX0_sum, 6, (some .int), 0, 1, 0)
def xi_5 : xI := (yX0_highestKey, cX0_highestKey, 2, (some .int), 0, 1, 0)
def xi_6 : xI := (yX0_lowestKey, cX0_lowestKey, 2, (some .int), 0, 1, 0)
def xi_7 : xI := (yX0_strongestKey, cX0_strongestKey, 4, (some .int), 0, 1, 0)
def xi_8 : xI := (yX0_sumOfCells, cX0_sumOfCells, 6, (some .int), 2, 1, 0)
def xi_9 : xI := (yX0_silentCells, cX0_silentCells, 6, (some .int), 2, 1, 0)
def xi_10 : xI := (yX0_loudestCell, cX0_loudestCell, 6, (some .int), 1, 1, 0)
def xi_11 : xI := (yX0_mostBuriedLayer, cX0_mostBuriedLayer, 6, (some .int), 1, 1, 0)
def xi_12 : xI := (yX0_buriedOf, cX0_buriedOf, 10, (some .int), 3, 1, 0)
def xi_13 : xI := (yX0_howOften, cX0_howOften, 7, (some .int), 2, 1, 0)
def xi_14 : xI := (yX0_beginsAt, cX0_beginsAt, 6, (some .boolean), 3, 1, 0)
def xi_15 : xI := (yX1_init, cX1_init, 1, none, 0, 2, 1)
def xi_16 : xI := (yX1_isKnown, cX1_isKnown, 1, (some .boolean), 0, 1, 1)
def xi_17 : xI := (yX1_forget, cX1_forget, 1, none, 0, 1, 1)
def xi_18 : xI := (yX1_keep, cX1_keep, 4, none, 3, 1, 1)
def xi_19 : xI := (yX1_tell, cX1_tell, 2, (some .int), 1, 1, 1)
def xi_20 : xI := (yX2_init, cX2_init, 2, none, 0, 2, 2)
def xi_21 : xI := (yX2_size, cX2_size, 1, (some .int), 0, 1, 2)
def xi_22 : xI := (yX2_stateAt, cX2_stateAt, 3, (some (.object "PedalLayers$Pedal")), 1, 1, 2)
def xi_23 : xI := (yX2_prepare, cX2_prepare, 3, none, 1, 1, 2)
def xi_24 : xI := (yX2_keep, cX2_keep, 1, none, 0, 1, 2)
def xi_25 : xI := (yX2_takeLatest, cX2_takeLatest, 1, (some (.object "PedalLayers$Pedal")), 0, 1, 2)
def xi_26 : xI := (yX3_init, cX3_init, 1, none, 0, 2, 3)
def xi_27 : xI := (yX3_copyFrom, cX3_copyFrom, 2, none, 1, 1, 3)
def xi_28 : xI := (yX4_init, cX4_init, 1, none, 0, 2, 4)
def xi_29 : xI := (yX4_cells, cX4_cells, 1, (some .int), 0, 1, 4)
def xi_30 : xI := (yX4_at, cX4_at, 4, (some .int), 2, 1, 4)
def xi_31 : xI := (yX4_add, cX4_add, 5, (some .int), 3, 1, 4)
def xi_32 : xI := (yX4_clear, cX4_clear, 3, none, 1, 1, 4)
def xi_33 : xI := (yX4_copyFrom, cX4_copyFrom, 4, none, 2, 1, 4)
def xi_34 : xI := (yX4_fold, cX4_fold, 4, none, 1, 1, 4)
def xi_35 : xI := (yX4_fade, cX4_fade, 3, none, 1, 1, 4)
def xi_36 : xI := (yX4_howMany, cX4_howMany, 3, (some .int), 0, 1, 4)
def xi_37 : xI := (yX4_sum, cX4_sum, 3, (some .int), 0, 1, 4)
def xi_38 : xI := (yX4_greatestFrom, cX4_greatestFrom, 5, (some .int), 1, 1, 4)
def xi_39 : xI := (yX5_init, cX5_init, 1, none, 0, 2, 5)
def xi_40 : xI := (yX5_next, cX5_next, 4, (some .int), 2, 1, 5)
def xi_41 : xI := (yX5_letter, cX5_letter, 1, (some .int), 1, 0, 5)
def xi_42 : xI := (yX5_isComplete, cX5_isComplete, 2, (some .boolean), 1, 1, 5)
def xi_43 : xI := (yX6_init, cX6_init, 1, none, 0, 2, 6)
def xi_44 : xI := (yX6_size, cX6_size, 1, (some .int), 0, 1, 6)
def xi_45 : xI := (yX6_add, cX6_add, 2, (some .int), 1, 1, 6)
def xi_46 : xI := (yX6_wipe, cX6_wipe, 2, (some .int), 0, 1, 6)
def xi_47 : xI := (yX6_signAt, cX6_signAt, 2, (some .char), 1, 1, 6)
def xi_48 : xI := (yX6_isLetter, cX6_isLetter, 2, (some .boolean), 1, 1, 6)
def xi_49 : xI := (yX6_behindNumber, cX6_behindNumber, 3, (some .int), 1, 1, 6)
def xi_50 : xI := (yX6_numberAt, cX6_numberAt, 5, (some .int), 1, 1, 6)
def xi_51 : xI := (yX6_firstFault, cX6_firstFault, 4, (some .int), 1, 1, 6)
def xi_52 : xI := (yX6_readTune, cX6_readTune, 5, (some .int), 1, 1, 6)
def xi_53 : xI := (yX6_isDigit, cX6_isDigit, 1, (some .boolean), 1, 0, 6)
def xi_54 : xI := (yX7_init, cX7_init, 2, none, 0, 2, 7)
def xi_55 : xI := (yX7_copyFrom, cX7_copyFrom, 3, none, 1, 1, 7)
def xi_56 : xI := (yX7_copyLayer, cX7_copyLayer, 2, none, 2, 0, 7)
def xi_57 : xI := (yX7_layerAt, cX7_layerAt, 2, (some (.object "PedalLayers$Layer")), 1, 1, 7)
def xi_58 : xI := (yX7_layerOnLoop, cX7_layerOnLoop, 2, (some (.object "PedalLayers$Layer")), 1, 1, 7)
def xi_59 : xI := (yX7_setting, cX7_setting, 2, (some .int), 1, 1, 7)
def xi_60 : xI := (yX7_takeRuns, cX7_takeRuns, 1, (some .boolean), 0, 1, 7)
def xi_61 : xI := (yX7_loopPlays, cX7_loopPlays, 1, (some .boolean), 0, 1, 7)
def xi_62 : xI := (yX7_loopLength, cX7_loopLength, 5, (some .int), 1, 1, 7)
def xi_63 : xI := (yX7_firstLength, cX7_firstLength, 2, (some .int), 0, 1, 7)
def xi_64 : xI := (yX7_isCell, cX7_isCell, 2, (some .boolean), 1, 1, 7)
def xi_65 : xI := (yX7_lowestHeardKey, cX7_lowestHeardKey, 1, (some .int), 0, 1, 7)
def xi_66 : xI := (yX7_soundingLayer, cX7_soundingLayer, 3, (some (.object "PedalLayers$Layer")), 1, 1, 7)
def xi_67 : xI := (yX7_greatestHeardForce, cX7_greatestHeardForce, 4, (some .int), 0, 1, 7)
def xi_68 : xI := (yX7_wholeBars, cX7_wholeBars, 7, (some .int), 1, 1, 7)
def xi_69 : xI := (yX7_pressPedal, cX7_pressPedal, 1, (some .int), 0, 1, 7)
def xi_70 : xI := (yX7_beginFirstTake, cX7_beginFirstTake, 1, (some .int), 0, 1, 7)
def xi_71 : xI := (yX7_beginTakeOver, cX7_beginTakeOver, 1, (some .int), 0, 1, 7)
def xi_72 : xI := (yX7_startLoop, cX7_startLoop, 1, (some .int), 0, 1, 7)
def xi_73 : xI := (yX7_endTake, cX7_endTake, 2, (some .int), 0, 1, 7)
def xi_74 : xI := (yX7_lay, cX7_lay, 3, none, 1, 1, 7)
def xi_75 : xI := (yX7_stopPedal, cX7_stopPedal, 1, (some .int), 0, 1, 7)
def xi_76 : xI := (yX7_throwAllAway, cX7_throwAllAway, 2, (some .int), 0, 1, 7)
def xi_77 : xI := (yX7_hitNote, cX7_hitNote, 3, (some .int), 2, 1, 7)
def xi_78 : xI := (yX7_cellOfTake, cX7_cellOfTake, 2, (some .int), 0, 1, 7)
def xi_79 : xI := (yX7_runTicks, cX7_runTicks, 5, (some .int), 1, 1, 7)
def xi_80 : xI := (yX7_longestTake, cX7_longestTake, 1, (some .int), 0, 1, 7)
def xi_81 : xI := (yX7_moveLoop, cX7_moveLoop, 3, (some .int), 1, 1, 7)
def xi_82 : xI := (yX7_fadeLayers, cX7_fadeLayers, 3, none, 0, 1, 7)
def xi_83 : xI := (yX7_peelOff, cX7_peelOff, 1, (some .int), 0, 1, 7)
def xi_84 : xI := (yX7_putBack, cX7_putBack, 1, (some .int), 0, 1, 7)
def xi_85 : xI := (yX7_switchMute, cX7_switchMute, 3, (some .int), 1, 1, 7)
def xi_86 : xI := (yX7_switchSpeed, cX7_switchSpeed, 1, (some .int), 0, 1, 7)
def xi_87 : xI := (yX7_changeSetting, cX7_changeSetting, 4, (some .int), 2, 1, 7)
def xi_88 : xI := (yX8_init, cX8_init, 1, none, 0, 2, 99)
def xi_89 : xI := (yX9_init, cX9_init, 1, none, 0, 2, 8)
def xi_90 : xI := (yX9_begin, cX9_begin, 3, none, 2, 1, 8)
def xi_91 : xI := (yX9_copyFrom, cX9_copyFrom, 2, none, 1, 1, 8)
def xi_92 : xI := (yX10_init, cX10_init, 1, none, 0, 2, 9)
def xi_93 : xI := (yX10_next, cX10_next, 4, (some .int), 2, 1, 9)
def xi_94 : xI := (yX10_behindFirstDigit, cX10_behindFirstDigit, 1, (some .int), 1, 0, 9)
def xi_95 : xI := (yX10_isComplete, cX10_isComplete, 2, (some .boolean), 1, 1, 9)
def xi_96 : xI := (yX11_init, cX11_init, 1, none, 0, 2, 10)
def xi_97 : xI := (yX11_press, cX11_press, 1, (some .int), 0, 1, 10)
def xi_98 : xI := (yX11_stop, cX11_stop, 1, (some .int), 0, 1, 10)
def xi_99 : xI := (yX11_empty, cX11_empty, 1, (some .int), 0, 1, 10)
def xi_100 : xI := (yX11_hit, cX11_hit, 3, (some .int), 2, 1, 10)
def xi_101 : xI := (yX11_pass, cX11_pass, 2, (some .int), 1, 1, 10)
def xi_102 : xI := (yX11_peel, cX11_peel, 1, (some .int), 0, 1, 10)
def xi_103 : xI := (yX11_back, cX11_back, 1, (some .int), 0, 1, 10)
def xi_104 : xI := (yX11_mute, cX11_mute, 2, (some .int), 1, 1, 10)
def xi_105 : xI := (yX11_speed, cX11_speed, 1, (some .int), 0, 1, 10)
def xi_106 : xI := (yX11_set, cX11_set, 3, (some .int), 2, 1, 10)
def xi_107 : xI := (yX11_append, cX11_append, 2, (some .int), 1, 1, 10)
def xi_108 : xI := (yX11_erase, cX11_erase, 1, (some .int), 0, 1, 10)
def xi_109 : xI := (yX11_fault, cX11_fault, 2, (some .int), 1, 1, 10)
def xi_110 : xI := (yX11_play, cX11_play, 4, (some .int), 0, 1, 10)
def xi_111 : xI := (yX11_why, cX11_why, 2, (some .int), 1, 1, 10)
def xi_112 : xI := (yX11_layer, cX11_layer, 4, (some .int), 2, 1, 10)
def xi_113 : xI := (yX11_note, cX11_note, 5, (some .int), 3, 1, 10)
def xi_114 : xI := (yX11_ring, cX11_ring, 3, (some .int), 2, 1, 10)
def xi_115 : xI := (yX11_heard, cX11_heard, 3, (some .int), 2, 1, 10)
def xi_116 : xI := (yX11_loudest, cX11_loudest, 1, (some .int), 0, 1, 10)
def xi_117 : xI := (yX11_buried, cX11_buried, 1, (some .int), 0, 1, 10)
def xi_118 : xI := (yX11_tunes, cX11_tunes, 1, (some .int), 0, 1, 10)
def xi_119 : xI := (yX11_count, cX11_count, 2, (some .int), 1, 1, 10)
def xi_120 : xI := (yX11_loudness, cX11_loudness, 2, (some .double), 0, 1, 10)
def xi_121 : xI := (yX11_barIn, cX11_barIn, 1, (some .int), 0, 1, 10)
def xi_122 : xI := (yX11_drift, cX11_drift, 4, (some .int), 1, 1, 10)
def xi_123 : xI := (yX11_meets, cX11_meets, 4, (some .int), 0, 1, 10)
def xi_124 : xI := (yX11_rounded, cX11_rounded, 2, (some .int), 1, 1, 10)
def xi_125 : xI := (yX11_silentIn, cX11_silentIn, 3, (some .int), 0, 1, 10)
def xi_126 : xI := (yX11_ifPeeled, cX11_ifPeeled, 3, (some .int), 2, 1, 10)
def xi_127 : xI := (yX11_undo, cX11_undo, 2, (some .int), 0, 1, 10)
def xi_128 : xI := (yX11_save, cX11_save, 1, (some .int), 0, 1, 10)
def xi_129 : xI := (yX11_restore, cX11_restore, 1, (some .int), 0, 1, 10)
def xi_130 : xI := (yX11_settle, cX11_settle, 2, (some .int), 1, 1, 10)
def xi_131 : xI := (yX11_carryOut, cX11_carryOut, 2, (some .int), 1, 1, 10)
def xi_132 : xI := (yX11_isKey, cX11_isKey, 1, (some .boolean), 1, 0, 10)
def xi_133 : xI := (yX11_isValueOf, cX11_isValueOf, 2, (some .boolean), 2, 0, 10)
def xi_134 : xI := (yX11_rest, cX11_rest, 2, (some .int), 2, 0, 10)
def xi_135 : xI := (yX11_untilMultiple, cX11_untilMultiple, 2, (some .int), 2, 0, 10)
def xi_136 : xI := (yX11_faded, cX11_faded, 2, (some .int), 2, 0, 10)
def xi_137 : xI := (yX12_init, cX12_init, 1, none, 0, 2, 11)
def xi_138 : xI := (yX12_in, cX12_in, 3, (some .boolean), 3, 0, 11)
def xi_139 : xI := (yX12_of, cX12_of, 2, (some .int), 1, 1, 11)
def xi_140 : xI := (yX12_remembers, cX12_remembers, 2, none, 0, 1, 11)
def xi_141 : xI := (yX12_force, cX12_force, 4, (some .int), 3, 1, 11)
def xi_142 : xI := (yX12_sets, cX12_sets, 7, none, 4, 1, 11)
def xi_143 : xI := (yX12_clears, cX12_clears, 3, none, 1, 1, 11)
def xi_144 : xI := (yX12_both, cX12_both, 2, (some .int), 2, 0, 11)
def xi_145 : xI := (yX12_isLayer, cX12_isLayer, 2, (some .boolean), 1, 1, 11)
def xi_146 : xI := (yX12_lengthOf, cX12_lengthOf, 4, (some .int), 1, 1, 11)
def xi_147 : xI := (yX12_loop, cX12_loop, 1, (some .int), 0, 1, 11)
def xi_148 : xI := (yX12_runsTake, cX12_runsTake, 1, (some .boolean), 0, 1, 11)
def xi_149 : xI := (yX12_starts, cX12_starts, 1, none, 0, 1, 11)
def xi_150 : xI := (yX12_beginsTake, cX12_beginsTake, 1, none, 0, 1, 11)
def xi_151 : xI := (yX12_endsTake, cX12_endsTake, 1, none, 0, 1, 11)
def xi_152 : xI := (yX12_lays, cX12_lays, 7, none, 2, 1, 11)
def xi_153 : xI := (yX12_roundedOf, cX12_roundedOf, 7, (some .int), 1, 1, 11)
def xi_154 : xI := (yX12_endsFirst, cX12_endsFirst, 3, none, 0, 1, 11)
def xi_155 : xI := (yX12_endsOver, cX12_endsOver, 2, none, 0, 1, 11)
def xi_156 : xI := (yX12_whyNotPress, cX12_whyNotPress, 2, (some .int), 0, 1, 11)
def xi_157 : xI := (yX12_presses, cX12_presses, 1, none, 0, 1, 11)
def xi_158 : xI := (yX12_whyNotStop, cX12_whyNotStop, 1, (some .int), 0, 1, 11)
def xi_159 : xI := (yX12_stops, cX12_stops, 1, none, 0, 1, 11)
def xi_160 : xI := (yX12_fades, cX12_fades, 6, none, 0, 1, 11)
def xi_161 : xI := (yX12_ticks, cX12_ticks, 5, (some .int), 0, 1, 11)
def xi_162 : xI := (yX12_passes, cX12_passes, 4, (some .int), 1, 1, 11)
def xi_163 : xI := (yX12_whyNotHit, cX12_whyNotHit, 4, (some .int), 2, 1, 11)
def xi_164 : xI := (yX12_hits, cX12_hits, 6, (some .int), 2, 1, 11)
def xi_165 : xI := (yX12_whyNotPeel, cX12_whyNotPeel, 1, (some .int), 0, 1, 11)
def xi_166 : xI := (yX12_peels, cX12_peels, 2, none, 0, 1, 11)
def xi_167 : xI := (yX12_whyNotBack, cX12_whyNotBack, 1, (some .int), 0, 1, 11)
def xi_168 : xI := (yX12_backs, cX12_backs, 1, none, 0, 1, 11)
def xi_169 : xI := (yX12_press, cX12_press, 2, (some .int), 0, 1, 11)
def xi_170 : xI := (yX12_stop, cX12_stop, 1, (some .int), 0, 1, 11)
def xi_171 : xI := (yX12_empty, cX12_empty, 2, (some .int), 0, 1, 11)
def xi_172 : xI := (yX12_hit, cX12_hit, 4, (some .int), 2, 1, 11)
def xi_173 : xI := (yX12_pass, cX12_pass, 2, (some .int), 1, 1, 11)
def xi_174 : xI := (yX12_peel, cX12_peel, 1, (some .int), 0, 1, 11)
def xi_175 : xI := (yX12_back, cX12_back, 1, (some .int), 0, 1, 11)
def xi_176 : xI := (yX12_mute, cX12_mute, 2, (some .int), 1, 1, 11)
def xi_177 : xI := (yX12_speed, cX12_speed, 1, (some .int), 0, 1, 11)
def xi_178 : xI := (yX12_set, cX12_set, 5, (some .int), 2, 1, 11)
def xi_179 : xI := (yX12_append, cX12_append, 2, (some .int), 1, 1, 11)
def xi_180 : xI := (yX12_erase, cX12_erase, 2, (some .int), 0, 1, 11)
def xi_181 : xI := (yX12_sign, cX12_sign, 2, (some .int), 1, 1, 11)
def xi_182 : xI := (yX12_digit, cX12_digit, 2, (some .int), 1, 1, 11)
def xi_183 : xI := (yX12_numberEnd, cX12_numberEnd, 6, (some .int), 3, 1, 11)
def xi_184 : xI := (yX12_numberAt, cX12_numberAt, 4, (some .int), 1, 1, 11)
def xi_185 : xI := (yX12_behind, cX12_behind, 3, (some .int), 2, 1, 11)
def xi_186 : xI := (yX12_orderEnd, cX12_orderEnd, 2, (some .int), 1, 1, 11)
def xi_187 : xI := (yX12_faultOf, cX12_faultOf, 5, (some .int), 1, 1, 11)
def xi_188 : xI := (yX12_fault, cX12_fault, 2, (some .int), 1, 1, 11)
def xi_189 : xI := (yX12_carries, cX12_carries, 5, (some .int), 1, 1, 11)
def xi_190 : xI := (yX12_goes, cX12_goes, 3, (some .int), 2, 1, 11)
def xi_191 : xI := (yX12_play, cX12_play, 4, (some .int), 0, 1, 11)
def xi_192 : xI := (yX12_why, cX12_why, 2, (some .int), 1, 1, 11)
def xi_193 : xI := (yX12_forces, cX12_forces, 8, (some .int), 3, 1, 11)
def xi_194 : xI := (yX12_layer, cX12_layer, 3, (some .int), 2, 1, 11)
def xi_195 : xI := (yX12_note, cX12_note, 5, (some .int), 3, 1, 11)
def xi_196 : xI := (yX12_adds, cX12_adds, 5, (some .int), 3, 1, 11)
def xi_197 : xI := (yX12_ringOf, cX12_ringOf, 6, (some .int), 3, 1, 11)
def xi_198 : xI := (yX12_sumIn, cX12_sumIn, 5, (some .int), 2, 1, 11)
def xi_199 : xI := (yX12_isCell, cX12_isCell, 2, (some .boolean), 1, 1, 11)
def xi_200 : xI := (yX12_ring, cX12_ring, 3, (some .int), 2, 1, 11)
def xi_201 : xI := (yX12_keys, cX12_keys, 9, (some .int), 2, 1, 11)
def xi_202 : xI := (yX12_heard, cX12_heard, 3, (some .int), 2, 1, 11)
def xi_203 : xI := (yX12_loudest, cX12_loudest, 5, (some .int), 0, 1, 11)
def xi_204 : xI := (yX12_buriedOf, cX12_buriedOf, 5, (some .int), 1, 1, 11)
def xi_205 : xI := (yX12_buried, cX12_buried, 5, (some .int), 0, 1, 11)
def xi_206 : xI := (yX12_comesAt, cX12_comesAt, 5, (some .boolean), 1, 1, 11)
def xi_207 : xI := (yX12_tunes, cX12_tunes, 3, (some .int), 0, 1, 11)
def xi_208 : xI := (yX12_count, cX12_count, 2, (some .int), 1, 1, 11)
def xi_209 : xI := (yX12_sumOf, cX12_sumOf, 4, (some .int), 1, 1, 11)
def xi_210 : xI := (yX12_loudness, cX12_loudness, 1, (some .double), 0, 1, 11)
def xi_211 : xI := (yX12_barIn, cX12_barIn, 3, (some .int), 0, 1, 11)
def xi_212 : xI := (yX12_drift, cX12_drift, 3, (some .int), 1, 1, 11)
def xi_213 : xI := (yX12_meets, cX12_meets, 2, (some .int), 0, 1, 11)
def xi_214 : xI := (yX12_rounded, cX12_rounded, 2, (some .int), 1, 1, 11)
def xi_215 : xI := (yX12_greatest, cX12_greatest, 5, (some .int), 0, 1, 11)
def xi_216 : xI := (yX12_silentIn, cX12_silentIn, 3, (some .int), 0, 1, 11)
def xi_217 : xI := (yX12_ifPeeled, cX12_ifPeeled, 5, (some .int), 2, 1, 11)
def xi_218 : xI := (yX12_undo, cX12_undo, 2, (some .int), 0, 1, 11)
def xi_219 : xI := (yX12_save, cX12_save, 2, (some .int), 0, 1, 11)
def xi_220 : xI := (yX12_restore, cX12_restore, 2, (some .int), 0, 1, 11)
def xi_221 : xI := (yL_law, code, 8, (some .boolean), 1, 0, 99)
def xiall : List xI := [xi_0, xi_1, xi_2, xi_3, xi_4, xi_5, xi_6, xi_7, xi_8, xi_9, xi_10, xi_11, xi_12, xi_13, xi_14, xi_15, xi_16, xi_17, xi_18, xi_19, xi_20, xi_21, xi_22, xi_23, xi_24, xi_25, xi_26, xi_27, xi_28, xi_29, xi_30, xi_31, xi_32, xi_33, xi_34, xi_35, xi_36, xi_37, xi_38, xi_39, xi_40, xi_41, xi_42, xi_43, xi_44, xi_45, xi_46, xi_47, xi_48, xi_49, xi_50, xi_51, xi_52, xi_53, xi_54, xi_55, xi_56, xi_57, xi_58, xi_59, xi_60, xi_61, xi_62, xi_63, xi_64, xi_65, xi_66, xi_67, xi_68, xi_69, xi_70, xi_71, xi_72, xi_73, xi_74, xi_75, xi_76, xi_77, xi_78, xi_79, xi_80, xi_81, xi_82, xi_83, xi_84, xi_85, xi_86, xi_87, xi_88, xi_89, xi_90, xi_91, xi_92, xi_93, xi_94, xi_95, xi_96, xi_97, xi_98, xi_99, xi_100, xi_101, xi_102, xi_103, xi_104, xi_105, xi_106, xi_107, xi_108, xi_109, xi_110, xi_111, xi_112, xi_113, xi_114, xi_115, xi_116, xi_117, xi_118, xi_119, xi_120, xi_121, xi_122, xi_123, xi_124, xi_125, xi_126, xi_127, xi_128, xi_129, xi_130, xi_131, xi_132, xi_133, xi_134, xi_135, xi_136, xi_137, xi_138, xi_139, xi_140, xi_141, xi_142, xi_143, xi_144, xi_145, xi_146, xi_147, xi_148, xi_149, xi_150, xi_151, xi_152, xi_153, xi_154, xi_155, xi_156, xi_157, xi_158, xi_159, xi_160, xi_161, xi_162, xi_163, xi_164, xi_165, xi_166, xi_167, xi_168, xi_169, xi_170, xi_171, xi_172, xi_173, xi_174, xi_175, xi_176, xi_177, xi_178, xi_179, xi_180, xi_181, xi_182, xi_183, xi_184, xi_185, xi_186, xi_187, xi_188, xi_189, xi_190, xi_191, xi_192, xi_193, xi_194, xi_195, xi_196, xi_197, xi_198, xi_199, xi_200, xi_201, xi_202, xi_203, xi_204, xi_205, xi_206, xi_207, xi_208, xi_209, xi_210, xi_211, xi_212, xi_213, xi_214, xi_215, xi_216, xi_217, xi_218, xi_219, xi_220, xi_221]
def xinfo (y : Nat) : xI := xiall.getD y xi_0
def xcode (y pc : Nat) : Option xQ := ((xkall.getD y []).getD pc none)
end
section
/-! AN INTERPRETER OF THE METHODS' TABLES over numbers: ints and longs are Int (taken modulo 2^32, 2^64 where it matters), references are numbers of objects (0: null) -/
abbrev xV : Type := Int ⊕ Int ⊕ Nat ⊕ Nat ⊕ UInt64
abbrev vI (z : Int) : xV := .inl z
abbrev vL (z : Int) : xV := .inr (.inl z)
abbrev vR (r : Nat) : xV := .inr (.inr (.inl r))
abbrev vS (k : Nat) : xV := .inr (.inr (.inr (.inl k)))
abbrev vD (d : UInt64) : xV := .inr (.inr (.inr (.inr d)))
def wr (z : Int) : Int := (Int32.ofInt z).toInt
def wl (z : Int) : Int := (Int64.ofInt z).toInt
def xcat : xV → Nat
  | .inl _ => 1
  | .inr (.inl _) => 2
  | .inr (.inr (.inl _)) => 1
  | .inr (.inr (.inr (.inl _))) => 1
  | .inr (.inr (.inr (.inr _))) => 2
/-- how many objects, how many slots they have, their kinds, sizes, references -/
abbrev xG : Type := Nat × Nat × (Nat → Nat) × (Nat → Nat) × (Nat → Nat → Nat)
abbrev xM : Type := Nat → Nat → Int
abbrev xH : Type := xG × xM
abbrev xLs : Type := List (Option xV)
abbrev xF : Type := Nat × xLs × List xV × xH
abbrev xR : Type := xF ⊕ Option xV ⊕ (Nat × List xV × List xV)
abbrev gN (g : xG) : Nat := g.1
abbrev gW (g : xG) : Nat := g.2.1
abbrev gT (g : xG) : Nat → Nat := g.2.2.1
abbrev gZ (g : xG) : Nat → Nat := g.2.2.2.1
abbrev gP (g : xG) : Nat → Nat → Nat := g.2.2.2.2
def xset {α : Type} (M : Nat → Nat → α) (r j : Nat) (v : α) : Nat → Nat → α := fun a b => if a = r ∧ b = j then v else M a b
def xrow {α : Type} (M : Nat → α) (r : Nat) (f : α) : Nat → α := fun a => if a = r then f else M a
/-- a new object -/
def gnew (g : xG) (t z : Nat) : xG := (gN g + 1, gW g + z, xrow (gT g) (gN g + 1) t, xrow (gZ g) (gN g + 1) z, xrow (gP g) (gN g + 1) (fun _ => 0))
def hnew (h : xH) (t z : Nat) : xH := (gnew h.1 t z, xrow h.2 (gN h.1 + 1) (fun _ => 0))
abbrev nx (pc : Nat) (ls : xLs) (st : List xV) (h : xH) : Option xR := some (.inl (pc, ls, st, h))
def xclr (ls : xLs) : Nat → xLs
  | 0 => ls
  | k + 1 => match ls.getD k none with
    | some v => if xcat v = 2 then ls.set k none else ls
    | none => ls
def xsto (ls : xLs) (k : Nat) (v : xV) : xLs :=
  if xcat v = 2 then ((xclr ls k).set k (some v)).set (k + 1) none else (xclr ls k).set k (some v)
def xcmp (c : ClassFile.Cond) (a b : Int) : Prop := match c with
  | .eq => a = b
  | .ne => a ≠ b
  | .lt => a < b
  | .ge => b ≤ a
  | .gt => b < a
  | .le => a ≤ b
def xcmpD (c : ClassFile.Cond) (a b : Int) : Decidable (xcmp c a b) := by
  cases c <;> unfold xcmp <;> exact inferInstance
def xtgt (pc : Nat) (off : Int) : Nat := ((pc : Int) + off).toNat
def xsw (pc : Nat) (dflt lo hi : Int) (offs : Array Int) (z : Int) : Int :=
  if z < lo then dflt else if hi < z then dflt else offs.toList.getD (z - lo).toNat dflt
/-- int-like 0, boolean 1, reference 2 -/
def xfkt : List (List Nat) := [[2, 2, 2, 2], [1, 0, 0, 0], [2, 0, 0], [2, 1, 0], [2, 0], [], [2, 0], [2, 2, 2, 1, 0, 0, 0, 0, 0, 0, 0], [2, 0, 0], [], [2, 2, 2, 2, 2, 2, 2, 2, 1], [2, 2, 0, 2, 1, 2, 0, 2, 1]]
def xfk (ci k : Nat) : Nat := (xfkt.getD ci []).getD k 0
def xnf (ci : Nat) : Nat := (xfkt.getD ci []).length
abbrev xobj (g : xG) (r t : Nat) : Prop := 1 ≤ r ∧ r ≤ gN g ∧ gT g r = t
/-- the arrays that nobody writes: LEAST_VALUES, MOST_VALUES, the script -/
abbrev xRom : Type := Nat → Nat × (Nat → Int)
/-- what only the operand stack sees -/
def xpure (ins : ClassFile.Instr) (a b : Nat) (st : List xV) : Option (List xV) := match ins with
  | .aconst_null => some (vR 0 :: st)
  | .bipush n => some (vI n :: st)
  | .sipush n => some (vI n :: st)
  | .iconst n => some (vI n :: st)
  | .lconst n => some (vL (n.val : Int) :: st)
  | .dconst n => some (vD (if n.val = 0 then FP.dconst0 else FP.dconst1) :: st)
  | .ldc2_w _ => some (vL (if b = 1 then -(a : Int) else (a : Int)) :: st)
  | .iadd => match st with | .inl y :: .inl x :: r => some (vI (x + y) :: r) | _ => none
  | .isub => match st with | .inl y :: .inl x :: r => some (vI (x - y) :: r) | _ => none
  | .imul => match st with | .inl y :: .inl x :: r => some (vI (x * y) :: r) | _ => none
  | .idiv => match st with | .inl y :: .inl x :: r => if wr y = 0 then none else some (vI ((wr x).tdiv (wr y)) :: r) | _ => none
  | .irem => match st with | .inl y :: .inl x :: r => if wr y = 0 then none else some (vI ((wr x).tmod (wr y)) :: r) | _ => none
  | .iand => match st with | .inl y :: .inl x :: r => some (vI (Int32.ofInt x &&& Int32.ofInt y).toInt :: r) | _ => none
  | .ladd => match st with | .inr (.inl y) :: .inr (.inl x) :: r => some (vL (x + y) :: r) | _ => none
  | .lsub => match st with | .inr (.inl y) :: .inr (.inl x) :: r => some (vL (x - y) :: r) | _ => none
  | .lmul => match st with | .inr (.inl y) :: .inr (.inl x) :: r => some (vL (x * y) :: r) | _ => none
  | .ldiv => match st with | .inr (.inl y) :: .inr (.inl x) :: r => if wl y = 0 then none else some (vL ((wl x).tdiv (wl y)) :: r) | _ => none
  | .lrem => match st with | .inr (.inl y) :: .inr (.inl x) :: r => if wl y = 0 then none else some (vL ((wl x).tmod (wl y)) :: r) | _ => none
  | .land => match st with | .inr (.inl y) :: .inr (.inl x) :: r => some (vL (Int64.ofInt x &&& Int64.ofInt y).toInt :: r) | _ => none
  | .lor => match st with | .inr (.inl y) :: .inr (.inl x) :: r => some (vL (Int64.ofInt x ||| Int64.ofInt y).toInt :: r) | _ => none
  | .lxor => match st with | .inr (.inl y) :: .inr (.inl x) :: r => some (vL (Int64.ofInt x ^^^ Int64.ofInt y).toInt :: r) | _ => none
  | .lshl => match st with | .inl y :: .inr (.inl x) :: r => some (vL (Int64.ofInt x <<< ((Int32.ofInt y).toInt64 &&& 63)).toInt :: r) | _ => none
  | .lshr => match st with | .inl y :: .inr (.inl x) :: r => some (vL (Int64.ofInt x >>> ((Int32.ofInt y).toInt64 &&& 63)).toInt :: r) | _ => none
  | .lcmp => match st with | .inr (.inl y) :: .inr (.inl x) :: r => some (vI (if wl x < wl y then -1 else if wl x = wl y then 0 else 1) :: r) | _ => none
  | .i2l => match st with | .inl x :: r => some (vL (wr x) :: r) | _ => none
  | .l2i => match st with | .inr (.inl x) :: r => some (vI x :: r) | _ => none
  | .i2c => match st with | .inl x :: r => some (vI (wr x % 65536) :: r) | _ => none
  | .i2d => match st with | .inl x :: r => some (vD (FP.i2d (Int32.ofInt x)) :: r) | _ => none
  | .dmul => match st with | .inr (.inr (.inr (.inr y))) :: .inr (.inr (.inr (.inr x))) :: r => if FP.dmul x y &&& 0x7fffffffffffffff ≤ 0x7ff0000000000000 then some (vD (FP.dmul x y) :: r) else none | _ => none
  | .ddiv => match st with | .inr (.inr (.inr (.inr y))) :: .inr (.inr (.inr (.inr x))) :: r => if FP.ddiv x y &&& 0x7fffffffffffffff ≤ 0x7ff0000000000000 then some (vD (FP.ddiv x y) :: r) else none | _ => none
  | .dcmp op => match st with | .inr (.inr (.inr (.inr y))) :: .inr (.inr (.inr (.inr x))) :: r => some (vI (Op.cmpValue (FP.dcmp x y) op).toInt :: r) | _ => none
  | .dup => match st with | v :: r => if xcat v = 1 then some (v :: v :: r) else none | _ => none
  | .dup2 => match st with | v :: u :: r => if xcat v = 1 then (if xcat u = 1 then some (v :: u :: v :: u :: r) else none) else none | _ => none
  | .pop => match st with | v :: r => if xcat v = 1 then some r else none | _ => none
  | _ => none
/-- the local that is loaded, and of which sort it must be (0 int, 1 long, 2 reference, 4 double) -/
def xld (ins : ClassFile.Instr) : Option (Nat × Nat) := match ins with
  | .iload k => some (k, 0)
  | .iload_n k => some (k.val, 0)
  | .lload k => some (k, 1)
  | .lload_n k => some (k.val, 1)
  | .aload k => some (k, 2)
  | .aload_n k => some (k.val, 2)
  | .dload k => some (k, 4)
  | .dload_n k => some (k.val, 4)
  | _ => none
def xso (ins : ClassFile.Instr) : Option (Nat × Nat) := match ins with
  | .istore k => some (k, 0)
  | .istore_n k => some (k.val, 0)
  | .lstore k => some (k, 1)
  | .lstore_n k => some (k.val, 1)
  | .astore k => some (k, 2)
  | .astore_n k => some (k.val, 2)
  | .dstore k => some (k, 4)
  | .dstore_n k => some (k.val, 4)
  | _ => none
def xsort : xV → Nat
  | .inl _ => 0
  | .inr (.inl _) => 1
  | .inr (.inr (.inl _)) => 2
  | .inr (.inr (.inr (.inl _))) => 2
  | .inr (.inr (.inr (.inr _))) => 4
/-- jumps -/
def xjmp (pc : Nat) (ins : ClassFile.Instr) (ls : xLs) (st : List xV) (h : xH) : Option xR := match ins with
  | .goto off => if 0 ≤ (pc : Int) + off then nx (xtgt pc off) ls st h else none
  | .if_icmp c off => match st with
    | .inl y :: .inl x :: r => if 0 ≤ (pc : Int) + off then @ite _ (xcmp c (wr x) (wr y)) (xcmpD _ _ _) (nx (xtgt pc off) ls r h) (nx (pc + 3) ls r h) else none
    | _ => none
  | .ifCond c off => match st with
    | .inl x :: r => if 0 ≤ (pc : Int) + off then @ite _ (xcmp c (wr x) 0) (xcmpD _ _ _) (nx (xtgt pc off) ls r h) (nx (pc + 3) ls r h) else none
    | _ => none
  | .ifnull off => match st with
    | .inr (.inr (.inl k)) :: r => if 0 ≤ (pc : Int) + off then (if k = 0 then nx (xtgt pc off) ls r h else nx (pc + 3) ls r h) else none
    | _ => none
  | .ifnonnull off => match st with
    | .inr (.inr (.inl k)) :: r => if 0 ≤ (pc : Int) + off then (if k = 0 then nx (pc + 3) ls r h else nx (xtgt pc off) ls r h) else none
    | _ => none
  | .tableswitch d lo hi offs => match st with
    | .inl x :: r => if 0 ≤ (pc : Int) + xsw pc d lo hi offs (wr x) ∧ ((wr x - lo).toNat < offs.size ∨ wr x < lo ∨ hi < wr x) then nx (xtgt pc (xsw pc d lo hi offs (wr x))) ls r h else none
    | _ => none
  | .lookupswitch d ps => match st with
    | .inl x :: r => if 0 ≤ (pc : Int) + Op.lookupswitch.offset ps.toList d (wr x) ∧ (ps.toList.zip (ps.toList.drop 1)).all (fun (a, next) => a.1 < next.1) = true then nx (xtgt pc (Op.lookupswitch.offset ps.toList d (wr x))) ls r h else none
    | _ => none
  | _ => none
/-- objects and arrays -/
def xheap (rom : xRom) (y pc : Nat) (q : xQ) (ls : xLs) (st : List xV) (h : xH) : Option xR := match q.1 with
  | .getfield _ => match st with
    | .inr (.inr (.inl r)) :: s => if xobj h.1 r q.2.2.2.1 then nx (pc + 3) ls ((if xfk q.2.2.2.1 q.2.2.2.2.1 = 2 then vR (gP h.1 r q.2.2.2.2.1) else vI (h.2 r q.2.2.2.2.1)) :: s) h else none
    | _ => none
  | .putfield _ => match st with
    | .inl z :: .inr (.inr (.inl r)) :: s => if xobj h.1 r q.2.2.2.1 ∧ (xfk q.2.2.2.1 q.2.2.2.2.1 = 0 ∨ (xfk q.2.2.2.1 q.2.2.2.2.1 = 1 ∧ (wr z = 0 ∨ wr z = 1))) then nx (pc + 3) ls s (h.1, xset h.2 r q.2.2.2.2.1 z) else none
    | .inr (.inr (.inl k)) :: .inr (.inr (.inl r)) :: s => if xobj h.1 r q.2.2.2.1 ∧ xfk q.2.2.2.1 q.2.2.2.2.1 = 2 ∧ (xinfo y).2.2.2.2.2.1 = 2 ∧ q.2.2.1 = 0 ∧ (xinfo y).2.2.2.2.2.2 = q.2.2.2.1 then nx (pc + 3) ls s ((gN h.1, gW h.1, gT h.1, gZ h.1, xset (gP h.1) r q.2.2.2.2.1 k), h.2) else none
    | _ => none
  | .getstatic _ => nx (pc + 3) ls (vS q.2.2.2.1 :: st) h
  | .iaload => match st with
    | .inl j :: .inr (.inr (.inl r)) :: s => if xobj h.1 r 100 ∧ 0 ≤ wr j ∧ wr j < gZ h.1 r then nx (pc + 1) ls (vI (h.2 r (wr j).toNat) :: s) h else none
    | .inl j :: .inr (.inr (.inr (.inl k))) :: s => if k < 3 ∧ 0 ≤ wr j ∧ wr j < (rom k).1 then nx (pc + 1) ls (vI ((rom k).2 (wr j).toNat) :: s) h else none
    | _ => none
  | .caload => match st with
    | .inl j :: .inr (.inr (.inl r)) :: s => if xobj h.1 r 102 ∧ 0 ≤ wr j ∧ wr j < gZ h.1 r then nx (pc + 1) ls (vI (h.2 r (wr j).toNat) :: s) h else none
    | _ => none
  | .laload => match st with
    | .inl j :: .inr (.inr (.inl r)) :: s => if xobj h.1 r 101 ∧ 0 ≤ wr j ∧ wr j < gZ h.1 r then nx (pc + 1) ls (vL (h.2 r (wr j).toNat) :: s) h else none
    | _ => none
  | .aaload => match st with
    | .inl j :: .inr (.inr (.inl r)) :: s => if 1 ≤ r ∧ r ≤ gN h.1 ∧ (gT h.1 r = 103 ∨ gT h.1 r = 104) ∧ 0 ≤ wr j ∧ wr j < gZ h.1 r then nx (pc + 1) ls (vR (gP h.1 r (wr j).toNat) :: s) h else none
    | _ => none
  | .iastore => match st with
    | .inl z :: .inl j :: .inr (.inr (.inl r)) :: s => if xobj h.1 r 100 ∧ 0 ≤ wr j ∧ wr j < gZ h.1 r then nx (pc + 1) ls s (h.1, xset h.2 r (wr j).toNat z) else none
    | _ => none
  | .castore => match st with
    | .inl z :: .inl j :: .inr (.inr (.inl r)) :: s => if xobj h.1 r 102 ∧ 0 ≤ wr j ∧ wr j < gZ h.1 r ∧ 0 ≤ wr z ∧ wr z < 65536 then nx (pc + 1) ls s (h.1, xset h.2 r (wr j).toNat z) else none
    | _ => none
  | .lastore => match st with
    | .inr (.inl z) :: .inl j :: .inr (.inr (.inl r)) :: s => if xobj h.1 r 101 ∧ 0 ≤ wr j ∧ wr j < gZ h.1 r then nx (pc + 1) ls s (h.1, xset h.2 r (wr j).toNat z) else none
    | _ => none
  | .aastore => match st with
    | .inr (.inr (.inl k)) :: .inl j :: .inr (.inr (.inl r)) :: s => if 1 ≤ r ∧ r ≤ gN h.1 ∧ ((gT h.1 r = 103 ∧ xobj h.1 k 7) ∨ (gT h.1 r = 104 ∧ xobj h.1 k 3)) ∧ 0 ≤ wr j ∧ wr j < gZ h.1 r then nx (pc + 1) ls s ((gN h.1, gW h.1, gT h.1, gZ h.1, xset (gP h.1) r (wr j).toNat k), h.2) else none
    | _ => none
  | .arraylength => match st with
    | .inr (.inr (.inl r)) :: s => if 1 ≤ r ∧ r ≤ gN h.1 ∧ 100 ≤ gT h.1 r ∧ gT h.1 r < 105 then nx (pc + 1) ls (vI (gZ h.1 r) :: s) h else none
    | .inr (.inr (.inr (.inl k))) :: s => if k < 3 then nx (pc + 1) ls (vI (rom k).1 :: s) h else none
    | _ => none
  | .new _ => nx (pc + 3) ls (vR (gN h.1 + 1) :: st) (hnew h q.2.2.2.1 (xnf q.2.2.2.1))
  | .newarray _ => match st with
    | .inl z :: s => if 0 ≤ wr z ∧ wr z < 60000000 then nx (pc + 2) ls (vR (gN h.1 + 1) :: s) (hnew h q.2.2.2.1 (wr z).toNat) else none
    | _ => none
  | .anewarray _ => match st with
    | .inl z :: s => if 0 ≤ wr z ∧ wr z < 60000000 then nx (pc + 3) ls (vR (gN h.1 + 1) :: s) (hnew h q.2.2.2.1 (wr z).toNat) else none
    | _ => none
  | _ => none
/-- a call of a method of ours: how many values it takes off -/
def xinv (y' k : Nat) (st : List xV) : Option xR :=
  if k ≤ st.length ∧ ((st.drop k).map xcat).sum ≤ 8 ∧ (st.take k).all (fun v => xcat v == 1) = true then some (.inr (.inr (y', (st.take k).reverse, st.drop k))) else none
def xrecv (g : xG) (ci : Nat) (v : Option xV) : Prop := match v with
  | some (.inr (.inr (.inl r))) => 1 ≤ r ∧ r ≤ gN g ∧ (ci = 99 ∨ gT g r = ci)
  | _ => False
def xrecvD (g : xG) (ci : Nat) (v : Option xV) : Decidable (xrecv g ci v) := by
  unfold xrecv; split <;> exact inferInstance
def xcpy (f g : Nat → Int) (sp dp n : Nat) : Nat → Int := fun k => if dp ≤ k ∧ k < dp + n then f (sp + (k - dp)) else g k
def xcall (d pc : Nat) (q : xQ) (ls : xLs) (st : List xV) (h : xH) : Option xR :=
  if q.2.2.1 ≤ 1 then
    let i := xinfo q.2.2.2.1
    if i.2.2.2.2.2.1 = 0 then xinv q.2.2.2.1 i.2.2.2.2.1 st
    else @ite _ (xrecv h.1 (if i.2.2.2.2.2.1 = 2 then 99 else i.2.2.2.2.2.2) (st[i.2.2.2.2.1]?)) (xrecvD _ _ _) (xinv q.2.2.2.1 (i.2.2.2.2.1 + 1) st) none
  else if d = 0 then none
  else match q.2.2.1, st with
  | 6, .inr (.inr (.inl r)) :: s => if r ≠ 0 ∧ (s.map xcat).sum ≤ 8 then nx (pc + 3) ls s h else none
  | 7, .inl y :: .inl x :: s => if (s.map xcat).sum ≤ 8 then nx (pc + 3) ls (vI (if wr x < wr y then y else x) :: s) h else none
  | 8, .inl y :: .inl x :: s => if (s.map xcat).sum ≤ 8 then nx (pc + 3) ls (vI (if wr y < wr x then y else x) :: s) h else none
  | 9, .inl x :: s => if (s.map xcat).sum ≤ 8 then nx (pc + 3) ls (vI (if wr x < 0 then -x else x) :: s) h else none
  | 10, .inl n :: .inl dp :: .inr (.inr (.inl a)) :: .inl sp :: .inr (.inr (.inl a0)) :: s =>
    if xobj h.1 a 100 ∧ xobj h.1 a0 100 ∧ 0 ≤ wr sp ∧ 0 ≤ wr dp ∧ 0 ≤ wr n ∧ wr sp + wr n ≤ gZ h.1 a0 ∧ wr dp + wr n ≤ gZ h.1 a ∧ (s.map xcat).sum ≤ 8 then nx (pc + 3) ls s (h.1, xrow h.2 a (xcpy (h.2 a0) (h.2 a) (wr sp).toNat (wr dp).toNat (wr n).toNat)) else none
  | _, _ => none
/-- the two calls of an abstract method, by the receiver's class -/
def xdisp (q : xQ) (st : List xV) (h : xH) : Option xR := match q.2.2.2.1, st with
  | 0, _ :: _ :: .inr (.inr (.inl r)) :: _ => if xobj h.1 r 5 then xinv 40 3 st else if xobj h.1 r 9 then xinv 93 3 st else none
  | 1, _ :: .inr (.inr (.inl r)) :: _ => if xobj h.1 r 5 then xinv 42 2 st else if xobj h.1 r 9 then xinv 95 2 st else none
  | _, _ => none
def xretOk (y : Nat) (z : Int) : Prop := match (xinfo y).2.2.2.1 with
  | some .int => True
  | some .boolean => wr z = 0 ∨ wr z = 1
  | some .char => 0 ≤ wr z ∧ wr z < 65536
  | _ => False
def xretOkD (y : Nat) (z : Int) : Decidable (xretOk y z) := by
  unfold xretOk; split <;> exact inferInstance
def xret (y : Nat) (ins : ClassFile.Instr) (st : List xV) : Option xR := match ins with
  | .ireturn => match st with
    | [.inl z] => @ite _ (xretOk y z) (xretOkD y z) (some (.inr (.inl (some (vI z))))) none
    | _ => none
  | .areturn => match st with
    | [.inr (.inr (.inl r))] => match (xinfo y).2.2.2.1 with
      | some (.object _) => some (.inr (.inl (some (vR r))))
      | _ => none
    | _ => none
  | .dreturn => match st with
    | [.inr (.inr (.inr (.inr x)))] => match (xinfo y).2.2.2.1 with
      | some .double => some (.inr (.inl (some (vD x))))
      | _ => none
    | _ => none
  | .return_ => match st with
    | [] => match (xinfo y).2.2.2.1 with
      | none => some (.inr (.inl none))
      | _ => none
    | _ => none
  | _ => none
/-- of which sort an instruction is -/
def xcls (ins : ClassFile.Instr) : Nat := match ins with
  | .goto _ | .if_icmp _ _ | .ifCond _ _ | .ifnull _ | .ifnonnull _ | .tableswitch _ _ _ _ | .lookupswitch _ _ => 1
  | .iload _ | .iload_n _ | .lload _ | .lload_n _ | .aload _ | .aload_n _ | .dload _ | .dload_n _ => 2
  | .istore _ | .istore_n _ | .lstore _ | .lstore_n _ | .astore _ | .astore_n _ | .dstore _ | .dstore_n _ => 3
  | .iinc _ _ => 4
  | .getfield _ | .putfield _ | .getstatic _ | .iaload | .caload | .laload | .aaload | .iastore | .castore | .lastore | .aastore | .arraylength | .new _ | .newarray _ | .anewarray _ => 5
  | .invokespecial _ | .invokestatic _ | .invokevirtual _ => 6
  | .ireturn | .areturn | .dreturn | .return_ => 7
  | _ => 0
def xstep (rom : xRom) (d y pc : Nat) (q : xQ) (ls : xLs) (st : List xV) (h : xH) : Option xR := match xcls q.1 with
  | 0 => match xpure q.1 q.2.2.2.1 q.2.2.2.2.1 st with | some st' => nx (pc + q.2.1) ls st' h | none => none
  | 1 => xjmp pc q.1 ls st h
  | 2 => match xld q.1 with
    | some (k, t) => match ls.getD k none with
      | some v => if xsort v = t then nx (pc + q.2.1) ls (v :: st) h else none
      | none => none
    | none => none
  | 3 => match xso q.1, st with
    | some (k, t), v :: r => if xsort v = t ∧ k + xcat v ≤ ls.length then nx (pc + q.2.1) (xsto ls k v) r h else none
    | _, _ => none
  | 4 => match q.1 with
    | .iinc k n => match ls.getD k none with
      | some (.inl z) => nx (pc + 3) (ls.set k (some (vI (z + n)))) st h
      | _ => none
    | _ => none
  | 5 => xheap rom y pc q ls st h
  | 6 => if q.2.2.1 = 11 then xdisp q st h else xcall d pc q ls st h
  | _ => xret y q.1 st
def xentry (y : Nat) (as : List xV) : xLs := as.map some ++ List.replicate ((xinfo y).2.2.1 - as.length) none
def xrun (rom : xRom) : Nat → Nat → Nat → xF → Option (Option xV × xH)
  | 0, _, _, _ => none
  | f + 1, d, y, (pc, ls, st, h) => match xcode y pc with
    | none => none
    | some q => match xstep rom d y pc q ls st h with
      | none => none
      | some (.inl s) => xrun rom f d y s
      | some (.inr (.inl v)) => some (v, h)
      | some (.inr (.inr (y', as, rest))) => match d with
        | 0 => none
        | d' + 1 => match xrun rom f d' y' (0, xentry y' as, [], h) with
          | none => none
          | some (v, h') => xrun rom f (d' + 1) y (pc + 3, ls, v.toList ++ rest, h')
end
section
/-! the tables say what the bytes and the words say -/
def xlen (ins : ClassFile.Instr) : Nat := match ins with
  | .bipush _ | .iload _ | .lload _ | .aload _ | .dload _ | .istore _ | .lstore _ | .astore _ | .dstore _ | .newarray _ => 2
  | .sipush _ | .ldc2_w _ | .iinc _ _ | .goto _ | .if_icmp _ _ | .ifCond _ _ | .ifnull _ | .ifnonnull _ | .getfield _ | .putfield _ | .getstatic _ | .new _ | .anewarray _ | .invokespecial _ | .invokestatic _ | .invokevirtual _ => 3
  | .tableswitch _ _ _ _ | .lookupswitch _ _ => 0
  | _ => 1
def xrn (k : Nat) : String := if k = 0 then "LEAST_VALUES" else "MOST_VALUES"
def xdy (k : Nat) : MethodName := if k = 0 then ⟨"PedalLayers$Reading", "next", "(IC)I"⟩ else ⟨"PedalLayers$Reading", "isComplete", "(I)Z"⟩
def xml (own : String) (i : Nat) (q : xQ) : Bool :=
  if q.2.2.1 = 0 then decide (lw_tbl[q.2.2.2.2.2]? = some (.methodLink own i (xinfo q.2.2.2.1).1)) else decide (lw_tbl[q.2.2.2.2.2]? = some (.methodLinkNest own i (xinfo q.2.2.2.1).1 "PedalLayers"))
def xtgtOk (q : xQ) (fl : Nat) : Bool := decide (q.2.2.2.1 < 221) && decide ((xinfo q.2.2.2.1).2.2.2.2.2.1 = fl)
def xsq (own : String) (q : xQ) : Bool := match q.1 with
  | .getfield i | .putfield i => match vwCl[q.2.2.2.1]? with
    | some (_, T, N) => decide (q.2.2.2.2.1 < N) && (if q.2.2.1 = 0 then decide (lw_tbl[q.2.2.2.2.2]? = some (.fieldLink own i (T q.2.2.2.2.1).1 (T q.2.2.2.2.1).2.1 (T q.2.2.2.2.1).2.2.1)) else decide (lw_tbl[q.2.2.2.2.2]? = some (.fieldLinkNest own i (T q.2.2.2.2.1).1 (T q.2.2.2.2.1).2.1 (T q.2.2.2.2.1).2.2.1 "PedalLayers")))
    | none => false
  | .getstatic i => decide (q.2.2.2.1 < 2) && decide (lw_tbl[q.2.2.2.2.2]? = some (.fieldLink own i "PedalLayers" (xrn q.2.2.2.1) "[I"))
  | .new i => match vwCl[q.2.2.2.1]? with
    | some (C, _, _) => decide (lw_tbl[q.2.2.2.2.2]? = some (.classLink own i C))
    | none => false
  | .newarray t => decide ((q.2.2.2.1 = 100 ∧ t = .int) ∨ (q.2.2.2.1 = 101 ∧ t = .long) ∨ (q.2.2.2.1 = 102 ∧ t = .char))
  | .anewarray i => (decide (q.2.2.2.1 = 103) && decide (lw_tbl[q.2.2.2.2.2]? = some (.classLink own i "PedalLayers$Pedal"))) || (decide (q.2.2.2.1 = 104) && decide (lw_tbl[q.2.2.2.2.2]? = some (.classLink own i "PedalLayers$Layer")))
  | .ldc2_w i => decide (lw_tbl[q.2.2.2.2.2]? = some (.constantLong own i (Int64.ofInt (if q.2.2.2.2.1 = 1 then -(q.2.2.2.1 : Int) else (q.2.2.2.1 : Int)))))
  | .bipush n => decide (-128 ≤ n ∧ n < 128)
  | .sipush n => decide (-32768 ≤ n ∧ n < 32768)
  | .invokevirtual i => if q.2.2.1 = 11 then decide (q.2.2.2.1 < 2) && decide (lw_tbl[q.2.2.2.2.2]? = some (.methodLink own i (xdy q.2.2.2.1))) else decide (q.2.2.1 ≤ 1) && xtgtOk q 1 && xml own i q && decide (q.2.2.2.1 ≠ 40) && decide (q.2.2.2.1 ≠ 42) && decide (q.2.2.2.1 ≠ 93) && decide (q.2.2.2.1 ≠ 95)
  | .invokestatic i => if q.2.2.1 ≤ 1 then xtgtOk q 0 && xml own i q
    else if q.2.2.1 = 7 then decide (lw_tbl[q.2.2.2.2.2]? = some (.methodLink own i Lib.Math.max.name))
    else if q.2.2.1 = 8 then decide (lw_tbl[q.2.2.2.2.2]? = some (.methodLink own i Lib.Math.min.name))
    else if q.2.2.1 = 9 then decide (lw_tbl[q.2.2.2.2.2]? = some (.methodLink own i Lib.Math.abs.name))
    else decide (q.2.2.1 = 10) && decide (lw_tbl[q.2.2.2.2.2]? = some (.methodLink own i arraycopyName))
  | .invokespecial i => if q.2.2.1 ≤ 1 then xtgtOk q 2 && xml own i q else decide (q.2.2.1 = 6) && decide (lw_tbl[q.2.2.2.2.2]? = some (.methodLink own i objectInit))
  | _ => true
def xchk (y : Nat) (o : Option xQ) (pc : Nat) : Bool := match o with
  | none => true
  | some q => decide (decode (xinfo y).2.1 pc = .ok (q.1, q.2.1)) && (decide (xlen q.1 = 0) || decide (xlen q.1 = q.2.1)) && xsq (xinfo y).1.cls q
def xchR (y lo n : Nat) : Bool := (List.range' lo n).all (fun pc => xchk y ((xkall.getD y []).getD pc none) pc)
def xckP (y : Nat) : Prop := ∀ pc, xchk y ((xkall.getD y []).getD pc none) pc = true
theorem xchR_use {y lo n pc : Nat} (h : xchR y lo n = true) (h1 : lo ≤ pc) (h2 : pc < lo + n) : xchk y ((xkall.getD y []).getD pc none) pc = true := List.all_eq_true.mp h pc (List.mem_range'_1.mpr ⟨h1, h2⟩)
theorem xchR_out {y pc : Nat} (h : (xkall.getD y []).length ≤ pc) : xchk y ((xkall.getD y []).getD pc none) pc = true := by
  rw [List.getD_eq_getElem?_getD, List.getElem?_eq_none h]; rfl
/-! of each method: its words -/
def xmP (y : Nat) : Prop := plainName (xinfo y).1.cls = true ∧ Cond.code (xinfo y).1 (xinfo y).2.1 (xinfo y).2.2.1 (xinfo y).2.2.2.1 ∈ lw_tbl ∧ Cond.initialized (xinfo y).1.cls ∈ lw_tbl ∧
  ((xinfo y).2.2.2.2.2.1 = 0 → Cond.static (xinfo y).1 ∈ lw_tbl) ∧ ((xinfo y).2.2.2.2.2.1 ≠ 0 → Cond.instanceMethod (xinfo y).1 ∈ lw_tbl) ∧
  ((xinfo y).2.2.2.2.2.1 = 1 → y ≠ 40 → y ≠ 42 → y ≠ 93 → y ≠ 95 → Cond.selects (xinfo y).1.cls (xinfo y).1 (xinfo y).1 ∈ lw_tbl) ∧
  ((xinfo y).2.2.2.2.2.1 = 2 → (xinfo y).1.name = "<init>" ∧ (xinfo y).2.2.2.1 = none) ∧
  ((xinfo y).1.cls ≠ "java/lang/invoke/MethodHandle" ∧ (xinfo y).1.cls ≠ "java/lang/invoke/VarHandle" ∧ (parseMethodDescriptor (xinfo y).1.desc).map (fun d => d.parameters.length) = some (xinfo y).2.2.2.2.1) ∧
  (xinfo y).2.2.1 ≤ 17 ∧ (xinfo y).2.2.2.2.1 + 1 ≤ (xinfo y).2.2.1 + (if (xinfo y).2.2.2.2.2.1 = 0 then 1 else 0) ∧
  ((xinfo y).2.2.2.2.2.1 = 1 → (xinfo y).2.2.2.2.2.2 < 99) ∧
  ((xinfo y).2.2.2.2.2.2 < 99 → ∃ T N, vwCl[(xinfo y).2.2.2.2.2.2]? = some ((xinfo y).1.cls, T, N))
end
section
/-! the interpreter's numbers and objects, and the machine's -/
theorem xi_lt (x y : Int) : Int32.ofInt x < Int32.ofInt y ↔ wr x < wr y := Int32.lt_iff_toInt_lt
theorem xi_le (x y : Int) : Int32.ofInt x ≤ Int32.ofInt y ↔ wr x ≤ wr y := Int32.le_iff_toInt_le
theorem xi_eq (x y : Int) : Int32.ofInt x = Int32.ofInt y ↔ wr x = wr y := Int32.toInt_inj.symm
theorem xi_lt0 (x : Int) : Int32.ofInt x < 0 ↔ wr x < 0 := Int32.lt_iff_toInt_lt
theorem xi_le0 (x : Int) : Int32.ofInt x ≤ 0 ↔ wr x ≤ 0 := Int32.le_iff_toInt_le
theorem xi_0le (x : Int) : 0 ≤ Int32.ofInt x ↔ 0 ≤ wr x := Int32.le_iff_toInt_le
theorem xi_0lt (x : Int) : 0 < Int32.ofInt x ↔ 0 < wr x := Int32.lt_iff_toInt_lt
theorem xi_eq0 (x : Int) : Int32.ofInt x = 0 ↔ wr x = 0 := by
  rw [← Int32.toInt_inj]; rfl
theorem xi_wr (x : Int) : Int32.ofInt (wr x) = Int32.ofInt x := Int32.ofInt_toInt _
theorem xi_wl (x : Int) : Int64.ofInt (wl x) = Int64.ofInt x := Int64.ofInt_toInt _
theorem xi_div (x y : Int) : Int32.ofInt ((wr x).tdiv (wr y)) = Int32.ofInt x / Int32.ofInt y := by
  apply Int32.toInt_inj.mp
  rw [Int32.toInt_div, Int32.toInt_ofInt]; rfl
theorem xi_mod (x y : Int) : Int32.ofInt ((wr x).tmod (wr y)) = Int32.ofInt x - Int32.ofInt x / Int32.ofInt y * Int32.ofInt y := by
  rw [Int.tmod_def, Int32.ofInt_sub, Int32.ofInt_mul, xi_div, xi_wr, xi_wr, Int32.mul_comm]
theorem xl_div (x y : Int) : Int64.ofInt ((wl x).tdiv (wl y)) = Int64.ofInt x / Int64.ofInt y := by
  apply Int64.toInt_inj.mp
  rw [Int64.toInt_div, Int64.toInt_ofInt]; rfl
theorem xl_mod (x y : Int) : Int64.ofInt ((wl x).tmod (wl y)) = Int64.ofInt x - Int64.ofInt x / Int64.ofInt y * Int64.ofInt y := by
  rw [Int.tmod_def, Int64.ofInt_sub, Int64.ofInt_mul, xl_div, xi_wl, xi_wl, Int64.mul_comm]
theorem xl_eq0 (x : Int) : Int64.ofInt x = 0 ↔ wl x = 0 := by
  rw [← Int64.toInt_inj]; rfl
theorem xl_lt (x y : Int) : Int64.ofInt x < Int64.ofInt y ↔ wl x < wl y := Int64.lt_iff_toInt_lt
theorem xl_eq (x y : Int) : Int64.ofInt x = Int64.ofInt y ↔ wl x = wl y := Int64.toInt_inj.symm
theorem xi_i2l (x : Int) : (Int32.ofInt x).toInt64 = Int64.ofInt (wr x) := by
  apply Int64.toInt_inj.mp
  rw [Int32.toInt_toInt64]
  have h1 : -2 ^ 31 ≤ (Int32.ofInt x).toInt := Int32.le_toInt _
  have h2 : (Int32.ofInt x).toInt < 2 ^ 31 := Int32.toInt_lt _
  exact (Int64.toInt_ofInt_of_le (by omega) (by omega)).symm
theorem wr_rng (x : Int) : -2147483648 ≤ wr x ∧ wr x < 2147483648 := ⟨Int32.le_toInt _, Int32.toInt_lt _⟩
theorem wl_rng (x : Int) : -9223372036854775808 ≤ wl x ∧ wl x < 9223372036854775808 := ⟨Int64.le_toInt _, Int64.toInt_lt _⟩
theorem wr_id {x : Int} (h1 : -2147483648 ≤ x) (h2 : x < 2147483648) : wr x = x := Int32.toInt_ofInt_of_le (by omega) (by omega)
theorem wl_id {x : Int} (h1 : -9223372036854775808 ≤ x) (h2 : x < 9223372036854775808) : wl x = x := Int64.toInt_ofInt_of_le (by omega) (by omega)
theorem wr_wr (x : Int) : wr (wr x) = wr x := wr_id (wr_rng x).1 (wr_rng x).2
theorem wr_eq (x : Int) : wr x = x.bmod 4294967296 := Int32.toInt_ofInt
theorem xi_i2c (x : Int) : ((Int32.ofInt x).toUInt32 % 65536).toInt32 = Int32.ofInt (wr x % 65536) := by
  rw [pk_char]
  have h : (wr x % 65536) = (((Int32.ofInt x).toBitVec.toNat % 65536 : Nat) : Int) := by
    have e : wr x = (Int32.ofInt x).toBitVec.toInt := rfl
    rw [e, BitVec.toInt_eq_toNat_bmod]
    generalize (Int32.ofInt x).toBitVec.toNat = n
    rw [Int.bmod_def]
    split <;> omega
  rw [h, Int32.ofInt_eq_ofNat]; rfl
theorem xi_in {j : Int} {n : Nat} (h0 : 0 ≤ wr j) (h1 : wr j < n) : vp_in (Int32.ofInt j) n := vp_in_iff.mpr ⟨h0, h1⟩
theorem xi_cl (j : Int) : (Int32.ofInt j).toNatClampNeg = (wr j).toNat := rfl
theorem xi_nat (n : Nat) : Int32.ofNat n = Int32.ofInt (n : Int) := Int32.ofInt_eq_ofNat.symm
/-! values -/
def cv (B : Nat) (ra : Nat → Nat) : xV → Value
  | .inl z => .int (Int32.ofInt z)
  | .inr (.inl z) => .long (Int64.ofInt z)
  | .inr (.inr (.inl r)) => if r = 0 then .null else .ref (B + r)
  | .inr (.inr (.inr (.inl k))) => .ref (ra k)
  | .inr (.inr (.inr (.inr d))) => .double d
theorem cv_r {B : Nat} {ra : Nat → Nat} {r : Nat} (h : r ≠ 0) : cv B ra (vR r) = .ref (B + r) := if_neg h
theorem cv_0 {B : Nat} {ra : Nat → Nat} : cv B ra (vR 0) = .null := rfl
theorem cv_cat (B : Nat) (ra : Nat → Nat) (v : xV) : (cv B ra v).category = xcat v := by
  match v with
  | .inl z => rfl
  | .inr (.inl z) => rfl
  | .inr (.inr (.inl r)) =>
    show (if r = 0 then Value.null else Value.ref (B + r)).category = 1
    split <;> rfl
  | .inr (.inr (.inr (.inl k))) => rfl
  | .inr (.inr (.inr (.inr d))) => rfl
theorem cv_cats (B : Nat) (ra : Nat → Nat) (l : List xV) : ((l.map (cv B ra)).map fun v => v.category).sum = (l.map xcat).sum := by
  rw [List.map_map]; congr 1; apply List.map_congr_left; intro v _; exact cv_cat B ra v
def xrefo (B r : Nat) : Option Nat := if r = 0 then none else some (B + r)
theorem xrefo_cv (B : Nat) (ra : Nat → Nat) (r : Nat) : va_rf (xrefo B r) = cv B ra (vR r) := by
  show va_rf (if r = 0 then none else some (B + r)) = if r = 0 then Value.null else Value.ref (B + r)
  split <;> rfl
def xfv (B ci k r : Nat) (m : Int) : Value := if xfk ci k = 2 then va_rf (xrefo B r) else .int (Int32.ofInt m)
def xfs (B : Nat) (h : xH) (r : Nat) : List Value := (List.range (xnf (gT h.1 r))).map (fun k => xfv B (gT h.1 r) k (gP h.1 r k) (h.2 r k))
def xarr (B : Nat) (h : xH) (r : Nat) : (Nat → Int32) ⊕ (Nat → Int64) ⊕ (Nat → UInt32) ⊕ (Nat → UInt64) ⊕ (Nat → Option Nat) :=
  if gT h.1 r = 101 then .inr (.inl fun j => Int64.ofInt (h.2 r j)) else if gT h.1 r = 103 ∨ gT h.1 r = 104 then .inr (.inr (.inr (.inr fun j => xrefo B (gP h.1 r j)))) else .inl (fun j => Int32.ofInt (h.2 r j))
def xcont (dA : Nat → ClassId) (B : Nat) (h : xH) (r : Nat) : va_E :=
  if gT h.1 r < 100 then .inr (gT h.1 r, xfs B h r) else .inl (dA (gT h.1 r), gZ h.1 r, xarr B h r)
def wsx (dA : Nat → ClassId) (B : Nat) (h : xH) : va_W := (List.range (gN h.1)).map (fun i => (B + (i + 1), xcont dA B h (i + 1)))
theorem wsx_at {dA : Nat → ClassId} {B : Nat} {h : xH} {r : Nat} (h1 : 1 ≤ r) (h2 : r ≤ gN h.1) : (wsx dA B h)[r - 1]? = some (B + r, xcont dA B h r) := by
  unfold wsx
  rw [List.getElem?_map, List.getElem?_range (by omega), Option.map_some, show r - 1 + 1 = r by omega]
theorem wsx_inv {dA : Nat → ClassId} {B : Nat} {h : xH} {k : Nat} {q : Nat × va_E} (hq : (wsx dA B h)[k]? = some q) : k < gN h.1 ∧ q = (B + (k + 1), xcont dA B h (k + 1)) := by
  unfold wsx at hq
  rw [List.getElem?_map] at hq
  cases hk : (List.range (gN h.1))[k]? with
  | none => rw [hk] at hq; cases hq
  | some i =>
    rw [hk] at hq
    obtain ⟨hlt, he⟩ := List.getElem?_eq_some_iff.mp hk
    rw [List.getElem_range] at he
    subst he
    exact ⟨by simpa using hlt, (Option.some.inj hq).symm⟩
theorem wsx_D (dA : Nat → ClassId) (B : Nat) (h : xH) : va_D (fun q => B < q) (wsx dA B h) := by
  refine ⟨fun i j p q hi hj he => ?_, fun k q hk => ?_⟩
  · rw [(wsx_inv hi).2, (wsx_inv hj).2] at he
    have he : B + (i + 1) = B + (j + 1) := he
    omega
  · rw [(wsx_inv hk).2]
    show B < B + (k + 1)
    omega
theorem wsx_len (dA : Nat → ClassId) (B : Nat) (h : xH) : (wsx dA B h).length = gN h.1 := by
  unfold wsx; rw [List.length_map, List.length_range]
theorem wsx_set {dA : Nat → ClassId} {B : Nat} {h h' : xH} {r : Nat} {e : va_E} (h1 : 1 ≤ r) (h2 : r ≤ gN h.1) (hn : gN h'.1 = gN h.1) (hs : ∀ i, i ≠ r → xcont dA B h' i = xcont dA B h i) (he : xcont dA B h' r = e) : (wsx dA B h).set (r - 1) (B + r, e) = wsx dA B h' := by
  apply List.ext_getElem?
  intro k
  by_cases hk : k = r - 1
  · subst hk
    rw [List.getElem?_set_self (by rw [wsx_len]; omega), wsx_at h1 (by omega), he]
  · rw [List.getElem?_set_ne (Ne.symm hk)]
    by_cases hl : k < gN h.1
    · have a := wsx_at (dA := dA) (B := B) (h := h) (r := k + 1) (by omega) (by omega)
      have b := wsx_at (dA := dA) (B := B) (h := h') (r := k + 1) (by omega) (by omega)
      rw [show k + 1 - 1 = k by omega] at a b
      rw [a, b, hs (k + 1) (by omega)]
    · rw [List.getElem?_eq_none (by rw [wsx_len]; omega), List.getElem?_eq_none (by rw [wsx_len]; omega)]
theorem wsx_push {dA : Nat → ClassId} {B : Nat} {h h' : xH} {e : va_E} (hn : gN h'.1 = gN h.1 + 1) (hs : ∀ i, i ≤ gN h.1 → xcont dA B h' i = xcont dA B h i) (he : xcont dA B h' (gN h.1 + 1) = e) : wsx dA B h ++ [(B + (gN h.1 + 1), e)] = wsx dA B h' := by
  apply List.ext_getElem?
  intro k
  by_cases hl : k < gN h.1
  · rw [List.getElem?_append_left (by rw [wsx_len]; exact hl)]
    have a := wsx_at (dA := dA) (B := B) (h := h) (r := k + 1) (by omega) (by omega)
    have b := wsx_at (dA := dA) (B := B) (h := h') (r := k + 1) (by omega) (by omega)
    rw [show k + 1 - 1 = k by omega] at a b
    rw [a, b, hs (k + 1) (by omega)]
  · rw [List.getElem?_append_right (by rw [wsx_len]; omega), wsx_len]
    by_cases hk : k = gN h.1
    · subst hk
      have b := wsx_at (dA := dA) (B := B) (h := h') (r := gN h.1 + 1) (by omega) (by omega)
      rw [show gN h.1 + 1 - 1 = gN h.1 by omega] at b
      rw [Nat.sub_self, b, he]; rfl
    · rw [List.getElem?_eq_none (by show 1 ≤ _; omega), List.getElem?_eq_none (by rw [wsx_len]; omega)]
/-! locals -/
def xhas (B : Nat) (ra : Nat → Nat) (lsC : Array Slot) (nL : Nat) (ls : xLs) : Prop := ls.length = nL ∧ ∃ l, lv_has lsC nL l ∧ ∀ k v, ls.getD k none = some v → (k, cv B ra v) ∈ l
theorem xhas_get {B : Nat} {ra : Nat → Nat} {lsC : Array Slot} {nL : Nat} {ls : xLs} {k : Nat} {v : xV} (h : xhas B ra lsC nL ls) (hk : ls.getD k none = some v) : lsC[k]? = some (.val (cv B ra v)) := by
  obtain ⟨-, l, h1, h2⟩ := h
  exact h1.2.2 _ (h2 k v hk)
theorem xgetD_set (ls : xLs) (i k : Nat) (o : Option xV) : (ls.set i o).getD k none = if k = i ∧ i < ls.length then o else ls.getD k none := by
  rw [List.getD_eq_getElem?_getD, List.getD_eq_getElem?_getD]
  by_cases h : k = i
  · subst h
    by_cases hl : k < ls.length
    · rw [List.getElem?_set_self hl, if_pos ⟨rfl, hl⟩]; rfl
    · rw [if_neg (fun q => hl q.2), List.getElem?_eq_none (by rw [List.length_set]; omega), List.getElem?_eq_none (by omega)]
  · rw [List.getElem?_set_ne (Ne.symm h), if_neg (fun q => h q.1)]
theorem xclr_len (ls : xLs) (k : Nat) : (xclr ls k).length = ls.length := by
  cases k with
  | zero => rfl
  | succ k =>
    show (match ls.getD k none with | some v => if xcat v = 2 then ls.set k none else ls | none => ls).length = _
    split
    · split
      · rw [List.length_set]
      · rfl
    · rfl
theorem xclr_get {ls : xLs} {i k : Nat} {v : xV} (h : (xclr ls i).getD k none = some v) : ls.getD k none = some v ∧ ¬ (k + 1 = i ∧ xcat v = 2) := by
  cases i with
  | zero => exact ⟨h, fun q => by omega⟩
  | succ i =>
    have h9 : (match ls.getD i none with | some v => if xcat v = 2 then ls.set i none else ls | none => ls).getD k none = some v := h
    clear h
    revert h9; intro h
    split at h
    · rename_i w hw
      split at h
      · rename_i hc
        rw [xgetD_set] at h
        split at h
        · cases h
        · rename_i hn
          refine ⟨h, fun q => hn ⟨by omega, ?_⟩⟩
          rcases Nat.lt_or_ge i ls.length with z | z
          · exact z
          · rw [List.getD_eq_getElem?_getD, List.getElem?_eq_none z] at hw; cases hw
      · rename_i hc
        refine ⟨h, fun q => ?_⟩
        have : k = i := by omega
        subst this
        rw [h] at hw; cases hw; exact hc q.2
    · rename_i hw
      refine ⟨h, fun q => ?_⟩
      have : k = i := by omega
      subst this
      rw [h] at hw; cases hw
theorem xhas_sto1 {B : Nat} {ra : Nat → Nat} {nL : Nat} {ls : xLs} {i : Nat} {v : xV} {l : List (Nat × Value)} {lsC' : Array Slot} (hc : xcat v = 1) (hi : i < nL) (hn : ls.length = nL) (h2 : ∀ k v, ls.getD k none = some v → (k, cv B ra v) ∈ l)
    (h : lv_has lsC' nL ((i, cv B ra v) :: l.filter (fun q => !(q.1 == i) && !(q.1 + 1 == i && q.2.category == 2)))) : xhas B ra lsC' nL (xsto ls i v) := by
  have e : xsto ls i v = (xclr ls i).set i (some v) := by unfold xsto; rw [if_neg (by omega)]
  refine ⟨by rw [e, List.length_set, xclr_len]; exact hn, _, h, fun k w hk => ?_⟩
  rw [e, xgetD_set] at hk
  split at hk
  · rename_i q
    cases hk
    rw [q.1]
    exact List.mem_cons_self
  · rename_i q
    have hki : k ≠ i := fun z => q ⟨z, by rw [xclr_len]; omega⟩
    obtain ⟨a, b⟩ := xclr_get hk
    refine List.mem_cons_of_mem _ (List.mem_filter.mpr ⟨h2 k w a, ?_⟩)
    simp only [Bool.and_eq_true, Bool.not_eq_true', beq_eq_false_iff_ne, ne_eq, Bool.and_eq_false_iff, cv_cat]
    refine ⟨hki, ?_⟩
    by_cases z : k + 1 = i
    · exact Or.inr (fun y => b ⟨z, y⟩)
    · exact Or.inl z
theorem xhas_sto2 {B : Nat} {ra : Nat → Nat} {nL : Nat} {ls : xLs} {i : Nat} {v : xV} {l : List (Nat × Value)} {lsC' : Array Slot} (hc : xcat v = 2) (hi : i + 1 < nL) (hn : ls.length = nL) (h2 : ∀ k v, ls.getD k none = some v → (k, cv B ra v) ∈ l)
    (h : lv_has lsC' nL ((i, cv B ra v) :: l.filter (fun q => !(q.1 == i) && (!(q.1 == i + 1) && !(q.1 + 1 == i && q.2.category == 2))))) : xhas B ra lsC' nL (xsto ls i v) := by
  have e : xsto ls i v = ((xclr ls i).set i (some v)).set (i + 1) none := by unfold xsto; rw [if_pos hc]
  refine ⟨by rw [e, List.length_set, List.length_set, xclr_len]; exact hn, _, h, fun k w hk => ?_⟩
  rw [e, xgetD_set] at hk
  split at hk
  · cases hk
  · rename_i q2
    have hk2 : k ≠ i + 1 := fun z => q2 ⟨z, by rw [List.length_set, xclr_len]; omega⟩
    rw [xgetD_set] at hk
    split at hk
    · rename_i q
      cases hk
      rw [q.1]
      exact List.mem_cons_self
    · rename_i q
      have hki : k ≠ i := fun z => q ⟨z, by rw [xclr_len]; omega⟩
      obtain ⟨a, b⟩ := xclr_get hk
      refine List.mem_cons_of_mem _ (List.mem_filter.mpr ⟨h2 k w a, ?_⟩)
      simp only [Bool.and_eq_true, Bool.not_eq_true', beq_eq_false_iff_ne, ne_eq, Bool.and_eq_false_iff, cv_cat]
      refine ⟨hki, hk2, ?_⟩
      by_cases z : k + 1 = i
      · exact Or.inr (fun y => b ⟨z, y⟩)
      · exact Or.inl z
theorem xhas_inc {B : Nat} {ra : Nat → Nat} {nL : Nat} {ls : xLs} {i : Nat} {x z : Int} {lsC lsC' : Array Slot} {l : List (Nat × Value)} (hi : i < nL) (hn : ls.length = nL) (hl0 : lv_has lsC nL l) (h2 : ∀ k v, ls.getD k none = some v → (k, cv B ra v) ∈ l) (hk0 : ls.getD i none = some (vI x))
    (h : lv_has lsC' nL ((i, cv B ra (vI z)) :: l.filter (fun q => !(q.1 == i) && !(q.1 + 1 == i && q.2.category == 2)))) : xhas B ra lsC' nL (ls.set i (some (vI z))) := by
  refine ⟨by rw [List.length_set]; exact hn, _, h, fun k w hk => ?_⟩
  rw [xgetD_set] at hk
  split at hk
  · rename_i q
    cases hk
    rw [q.1]
    exact List.mem_cons_self
  · rename_i q
    have hki : k ≠ i := fun z => q ⟨z, by omega⟩
    refine List.mem_cons_of_mem _ (List.mem_filter.mpr ⟨h2 k w hk, ?_⟩)
    simp only [Bool.and_eq_true, Bool.not_eq_true', beq_eq_false_iff_ne, ne_eq, Bool.and_eq_false_iff, cv_cat]
    refine ⟨hki, ?_⟩
    by_cases zz : k + 1 = i
    · refine Or.inr (fun y => ?_)
      have a := hl0.2.2 _ (h2 k w hk)
      have b := hl0.2.1.1 k _ a (by rw [cv_cat]; exact y)
      have c := hl0.2.2 _ (h2 i _ hk0)
      rw [zz] at b
      have c : lsC[i]? = some (.val (cv B ra (vI x))) := c
      rw [b] at c
      cases c
    · exact Or.inl zz
end
section
/-! THE INTERPRETER IS SOUND, 1: what holds along a walk; what only the operand stack sees -/
def xtbl : List Cond := lw_tbl.filter goodWord
abbrev XA (B : Nat) : Nat → Prop := fun q => B < q
def xtys (dA : Nat → ClassId) : List (ClassId × FieldType) := [(dA 100, .int), (dA 101, .long), (dA 102, .char), (dA 103, .object "PedalLayers$Pedal"), (dA 104, .object "PedalLayers$Layer")]
def xRO (B : Nat) (ra : Nat → Nat) (rom : xRom) (U : State) (H : Heap) : Prop := (∀ k, k < 3 → va_T .int (ra k) (rom k).1 (fun j => .int (Int32.ofInt ((rom k).2 j))) (XA B) U H) ∧ ∀ k, k < 2 → va_Z "PedalLayers" (xrn k) "[I" (.ref (ra k)) (XA B) U H
/-- words of nest mates, and of an abstract method: they are kept another way -/
def xisN : Cond → Bool
  | .fieldLinkNest .. => true
  | .methodLinkNest .. => true
  | .declares .. => true
  | .arrayOver (.object _) => true
  | _ => false
def xNW (U : State) : Prop := ∀ w, w ∈ lw_tbl → xisN w = true → va_Nw w U
theorem xNW.warm {s U : State} (hW : s.WarmedH U.vm) (h : xNW s) : xNW U := by
  intro w hw hn
  have h1 := h w hw hn
  cases w <;> first | (cases hn; done) | exact va_Nw.warmF hW h1 | exact va_Nw.warmM hW h1 | exact va_Nw.warmD hW h1 | (rename_i ty; cases ty <;> first | (cases hn; done) | exact va_AO.moved hW.alike h1)
theorem xNW.same {u U : State} (hv : u.vm = U.vm) (h : xNW u) : xNW U := by
  intro w hw hn
  have h1 := h w hw hn
  cases w <;> first | (cases hn; done) | exact va_Nw.same rfl hv h1 | (rename_i ty; cases ty <;> first | (cases hn; done) | exact va_AO.moved (hv ▸ Vm.Alike.refl _) h1)
theorem xNW.use {s : State} {args : Array Value} (h : xNW s) {w : Cond} (hw : w ∈ lw_tbl) (hn : xisN w = true) : w.before args s = true := by
  have h1 := h w hw hn
  cases w <;> first | (cases hn; done) | exact va_Nw.use rfl h1 | (rename_i ty; cases ty <;> first | (cases hn; done) | exact va_AO.use h1)
def XC (rom : xRom) (B : Nat) (ra : Nat → Nat) (dA : Nat → ClassId) (D : va_G) (d y : Nat) (p : Program) (R : Room) (s : State) (m : MethodId) (args : Array Value) (meth : Method) (c : Code) : Prop :=
  p.tables.exec = Jvm.exec ∧ c.code = (xinfo y).2.1 ∧ c.maxLocals = (xinfo y).2.2.1 ∧ s.vm.findClass (xinfo y).1.cls = some m.cls ∧ (∀ w ∈ xtbl, w.before args s = true) ∧ ((xinfo y).2.2.2.2.2.1 = 2 → meth.name = "<init>") ∧ va_K D vwCl (xtys dA) s ∧ xRO B ra rom s s.heap ∧ B + 1 ≤ s.heap.size ∧ d ≤ R.frames ∧ 36 * d ≤ R.locals ∧ xNW s
def xSt (p : Program) (l : Launch) (e : Env) (R : Room) (s : State) (m : MethodId) (args : Array Value) (below : List Frame) (meth : Method) (c : Code) (Q : State → Prop) (B : Nat) (ra : Nat → Nat) (dA : Nat → ClassId) (D : va_G) (y n0 w0 : Nat) (σ : xF) : Prop :=
  ∀ (H : Heap) (locs : List Loc) (lsC : Array Slot), H.size = B + gN σ.2.2.2.1 + 1 → va_P D vwCl (wsx dA B σ.2.2.2) H → va_S (XA B) s.heap H locs → xhas B ra lsC (xinfo y).2.2.1 σ.2.1 →
    W p l e R s m args below meth c H locs (gN σ.2.2.2.1 - n0) (gW σ.2.2.2.1 - w0) Q (F0 m σ.1 lsC (σ.2.2.1.map (cv B ra)))
theorem xtbl_of {args : Array Value} {s : State} (h : ∀ w ∈ xtbl, w.before args s = true) {w : Cond} (h1 : w ∈ lw_tbl) (h2 : goodWord w = true) : w.before args s = true := h w (List.mem_filter.mpr ⟨h1, h2⟩)
section X1
variable {p : Program} {l : Launch} {e : Env} {R : Room} {s : State} {m : MethodId} {args : Array Value} {below : List Frame} {meth : Method} {c : Code} {Q : State → Prop} {B : Nat} {ra : Nat → Nat} {dA : Nat → ClassId} {D : va_G} {rom : xRom} {d y n0 w0 : Nat}
theorem W_top {H : Heap} {locs : List Loc} {cells slots pc : Nat} {ls : Array Slot} {v w : Value} {rest : List Value} (ev : v = w) (k : W p l e R s m args below meth c H locs cells slots Q (F0 m pc ls (v :: rest))) : W p l e R s m args below meth c H locs cells slots Q (F0 m pc ls (w :: rest)) := ev ▸ k
theorem x_cmpv (x y : Int) : Int32.ofInt (if wl x < wl y then -1 else if wl x = wl y then 0 else 1) = lg_cmp (Int64.ofInt x) (Int64.ofInt y) := by
  unfold lg_cmp
  simp only [xl_lt, xl_eq]
  by_cases h1 : wl x < wl y
  · rw [if_pos h1]
    simp [show ¬ wl y < wl x by omega, show ¬ wl x = wl y by omega, h1]
  · rw [if_neg h1]
    by_cases h2 : wl x = wl y
    · rw [if_pos h2]
      simp [h2]
    · rw [if_neg h2]
      simp [show wl y < wl x by omega]
theorem x_b8 {n : Int} (h : -128 ≤ n ∧ n < 128) : (Int8.ofInt n).toInt32 = Int32.ofInt n := by
  apply Int32.toInt_inj.mp
  rw [Int8.toInt_toInt32, Int8.toInt_ofInt_of_le (by omega) (by omega), Int32.toInt_ofInt_of_le (by omega) (by omega)]
theorem x_b16 {n : Int} (h : -32768 ≤ n ∧ n < 32768) : (Int16.ofInt n).toInt32 = Int32.ofInt n := by
  apply Int32.toInt_inj.mp
  rw [Int16.toInt_toInt32, Int16.toInt_ofInt_of_le (by omega) (by omega), Int32.toInt_ofInt_of_le (by omega) (by omega)]

set_option maxHeartbeats 4000000 in
theorem x_pure {pc len a b : Nat} {ins : ClassFile.Instr} {ls : xLs} {st st' : List xV} {h : xH} (hC : XC rom B ra dA D d y p R s m args meth c) (hd : decode (xinfo y).2.1 pc = .ok (ins, len)) (hl : xlen ins = len)
    (hw : ∀ i, ins = .ldc2_w i → (Cond.constantLong (xinfo y).1.cls i (Int64.ofInt (if b = 1 then -(a : Int) else (a : Int)))).before args s = true)
    (hr : (∀ n, ins = .bipush n → -128 ≤ n ∧ n < 128) ∧ ∀ n, ins = .sipush n → -32768 ≤ n ∧ n < 32768) (hp : xpure ins a b st = some st') (k : xSt p l e R s m args below meth c Q B ra dA D y n0 w0 (pc + len, ls, st', h)) : xSt p l e R s m args below meth c Q B ra dA D y n0 w0 (pc, ls, st, h) := by
  obtain ⟨hx, hb, hml, hown, hts, hin, hK, hRO, hB, hfr, hlo, hNW⟩ := hC
  intro H locs lsC hH hP hS hL
  unfold xpure at hp
  split at hp
  · have hl := hl.symm
    subst hl
    cases hp
    exact lv_null hx hb hd (k H locs lsC hH hP hS hL)
  · have hl := hl.symm
    subst hl
    cases hp
    exact lv_bipush hx hb hd (x_b8 (hr.1 _ rfl)) (k H locs lsC hH hP hS hL)
  · have hl := hl.symm
    subst hl
    cases hp
    exact lv_sipush hx hb hd (x_b16 (hr.2 _ rfl)) (k H locs lsC hH hP hS hL)
  · have hl := hl.symm
    subst hl
    cases hp
    exact lv_iconst hx hb hd rfl (k H locs lsC hH hP hS hL)
  · have hl := hl.symm
    subst hl
    cases hp
    exact lv_lconst hx hb hd (Int64.ofInt_eq_ofNat).symm (k H locs lsC hH hP hS hL)
  · rename_i n
    have hl := hl.symm
    subst hl
    cases hp
    rcases n with ⟨_ | _ | n, hn⟩
    · exact lv_dconst0 hx hb hd (k H locs lsC hH hP hS hL)
    · exact lv_dconst1 hx hb hd (k H locs lsC hH hP hS hL)
    · omega
  · have hl := hl.symm
    subst hl
    cases hp
    exact lv_ldc2 hx hb hown (hw _ rfl) hd (k H locs lsC hH hP hS hL)
  · have hl := hl.symm
    subst hl
    split at hp
    · cases hp
      exact lv_iadd hx hb hd (W_top (congrArg Value.int (Int32.ofInt_add _ _)) (k H locs lsC hH hP hS hL))
    · cases hp
  · have hl := hl.symm
    subst hl
    split at hp
    · cases hp
      exact lv_isub hx hb hd (W_top (congrArg Value.int (Int32.ofInt_sub _ _)) (k H locs lsC hH hP hS hL))
    · cases hp
  · have hl := hl.symm
    subst hl
    split at hp
    · cases hp
      exact lv_imul hx hb hd (W_top (congrArg Value.int (Int32.ofInt_mul _ _)) (k H locs lsC hH hP hS hL))
    · cases hp
  · have hl := hl.symm
    subst hl
    split at hp
    · split at hp
      · cases hp
      · rename_i hz
        cases hp
        exact lv_idiv hx hb hd (fun z => hz ((xi_eq0 _).mp z)) (W_top (congrArg Value.int (xi_div _ _)) (k H locs lsC hH hP hS hL))
    · cases hp
  · have hl := hl.symm
    subst hl
    split at hp
    · split at hp
      · cases hp
      · rename_i hz
        cases hp
        exact lv_irem hx hb hd (fun z => hz ((xi_eq0 _).mp z)) (W_top (congrArg Value.int (xi_mod _ _)) (k H locs lsC hH hP hS hL))
    · cases hp
  · have hl := hl.symm
    subst hl
    split at hp
    · cases hp
      exact lv_iand hx hb hd (W_top (congrArg Value.int (Int32.ofInt_toInt _)) (k H locs lsC hH hP hS hL))
    · cases hp
  · have hl := hl.symm
    subst hl
    split at hp
    · cases hp
      exact lv_ladd hx hb hd (W_top (congrArg Value.long (Int64.ofInt_add _ _)) (k H locs lsC hH hP hS hL))
    · cases hp
  · have hl := hl.symm
    subst hl
    split at hp
    · cases hp
      exact lv_lsub hx hb hd (W_top (congrArg Value.long (Int64.ofInt_sub _ _)) (k H locs lsC hH hP hS hL))
    · cases hp
  · have hl := hl.symm
    subst hl
    split at hp
    · cases hp
      exact lv_lmul hx hb hd (W_top (congrArg Value.long (Int64.ofInt_mul _ _)) (k H locs lsC hH hP hS hL))
    · cases hp
  · have hl := hl.symm
    subst hl
    split at hp
    · split at hp
      · cases hp
      · rename_i hz
        cases hp
        exact lv_ldiv hx hb hd (fun z => hz ((xl_eq0 _).mp z)) (W_top (congrArg Value.long (xl_div _ _)) (k H locs lsC hH hP hS hL))
    · cases hp
  · have hl := hl.symm
    subst hl
    split at hp
    · split at hp
      · cases hp
      · rename_i hz
        cases hp
        exact lv_lrem hx hb hd (fun z => hz ((xl_eq0 _).mp z)) (W_top (congrArg Value.long (xl_mod _ _)) (k H locs lsC hH hP hS hL))
    · cases hp
  · have hl := hl.symm
    subst hl
    split at hp
    · cases hp
      exact lv_land hx hb hd (W_top (congrArg Value.long (Int64.ofInt_toInt _)) (k H locs lsC hH hP hS hL))
    · cases hp
  · have hl := hl.symm
    subst hl
    split at hp
    · cases hp
      exact lv_lor hx hb hd (W_top (congrArg Value.long (Int64.ofInt_toInt _)) (k H locs lsC hH hP hS hL))
    · cases hp
  · have hl := hl.symm
    subst hl
    split at hp
    · cases hp
      exact lv_lxor hx hb hd (W_top (congrArg Value.long (Int64.ofInt_toInt _)) (k H locs lsC hH hP hS hL))
    · cases hp
  · have hl := hl.symm
    subst hl
    split at hp
    · cases hp
      exact lv_lshl hx hb hd rfl (W_top (congrArg Value.long (Int64.ofInt_toInt _)) (k H locs lsC hH hP hS hL))
    · cases hp
  · have hl := hl.symm
    subst hl
    split at hp
    · cases hp
      exact lv_lshr hx hb hd rfl (W_top (congrArg Value.long (Int64.ofInt_toInt _)) (k H locs lsC hH hP hS hL))
    · cases hp
  · have hl := hl.symm
    subst hl
    split at hp
    · cases hp
      exact W.lcmp hx hb hd (W_top (congrArg Value.int (x_cmpv _ _)) (k H locs lsC hH hP hS hL))
    · cases hp
  · have hl := hl.symm
    subst hl
    split at hp
    · cases hp
      exact lv_i2l hx hb hd rfl (W_top (congrArg Value.long (xi_i2l _).symm) (k H locs lsC hH hP hS hL))
    · cases hp
  · have hl := hl.symm
    subst hl
    split at hp
    · cases hp
      exact lv_l2i hx hb hd rfl (W_top (congrArg Value.int Int64.toInt32_ofInt.symm) (k H locs lsC hH hP hS hL))
    · cases hp
  · have hl := hl.symm
    subst hl
    split at hp
    · cases hp
      exact lv_i2c hx hb hd rfl (W_top (congrArg Value.int (xi_i2c _).symm) (k H locs lsC hH hP hS hL))
    · cases hp
  · have hl := hl.symm
    subst hl
    split at hp
    · cases hp
      exact lv_i2d hx hb hd (k H locs lsC hH hP hS hL)
    · cases hp
  · have hl := hl.symm
    subst hl
    split at hp
    · split at hp
      · rename_i hz
        cases hp
        exact lv_dmul hx hb hd hz (k H locs lsC hH hP hS hL)
      · cases hp
    · cases hp
  · have hl := hl.symm
    subst hl
    split at hp
    · split at hp
      · rename_i hz
        cases hp
        exact lv_ddiv hx hb hd hz (k H locs lsC hH hP hS hL)
      · cases hp
    · cases hp
  · have hl := hl.symm
    subst hl
    split at hp
    · cases hp
      exact lv_dcmp hx hb hd (W_top (congrArg Value.int (Int32.ofInt_toInt _)) (k H locs lsC hH hP hS hL))
    · cases hp
  · have hl := hl.symm
    subst hl
    split at hp
    · split at hp
      · rename_i hz
        cases hp
        exact lv_dup hx hb hd (by rw [cv_cat]; exact hz) (k H locs lsC hH hP hS hL)
      · cases hp
    · cases hp
  · have hl := hl.symm
    subst hl
    split at hp
    · split at hp
      · rename_i hz
        split at hp
        · rename_i hz2
          cases hp
          exact lv_dup2_11 hx hb hd (by rw [cv_cat]; exact hz) (by rw [cv_cat]; exact hz2) (k H locs lsC hH hP hS hL)
        · cases hp
      · cases hp
    · cases hp
  · have hl := hl.symm
    subst hl
    split at hp
    · split at hp
      · rename_i hz
        cases hp
        exact lv_pop hx hb hd (by rw [cv_cat]; exact hz) (k H locs lsC hH hP hS hL)
      · cases hp
    · cases hp
  · cases hp
end X1
end
section
/-! THE INTERPRETER IS SOUND, 2: jumps and locals -/
section X2
variable {p : Program} {l : Launch} {e : Env} {R : Room} {s : State} {m : MethodId} {args : Array Value} {below : List Frame} {meth : Method} {c : Code} {Q : State → Prop} {B : Nat} {ra : Nat → Nat} {dA : Nat → ClassId} {D : va_G} {rom : xRom} {d y n0 w0 : Nat}
theorem xtgt_ok {pc : Nat} {off : Int} (h : 0 ≤ (pc : Int) + off) : (pc : Int) + off = ((xtgt pc off : Nat) : Int) := (Int.toNat_of_nonneg h).symm
theorem x_offs {offs : Array Int} {k : Nat} {df : Int} (h : k < offs.size) : offs[k]? = some (offs.toList.getD k df) := by
  rw [List.getD_eq_getElem?_getD, Array.getElem?_toList]
  cases hq : offs[k]? with
  | none => rw [Array.getElem?_eq_none_iff] at hq; omega
  | some v => rfl
set_option maxHeartbeats 4000000 in
theorem x_jmp {pc len : Nat} {ins : ClassFile.Instr} {ls : xLs} {st : List xV} {h : xH} {σ : xF} (hC : XC rom B ra dA D d y p R s m args meth c) (hd : decode (xinfo y).2.1 pc = .ok (ins, len)) (hl : xlen ins = 0 ∨ xlen ins = len)
    (hp : xjmp pc ins ls st h = some (.inl σ)) (k : xSt p l e R s m args below meth c Q B ra dA D y n0 w0 σ) : xSt p l e R s m args below meth c Q B ra dA D y n0 w0 (pc, ls, st, h) := by
  obtain ⟨hx, hb, hml, hown, hts, hin, hK, hRO, hB, hfr, hlo, hNW⟩ := hC
  intro H locs lsC hH hP hS hL
  unfold xjmp at hp
  split at hp
  · have hl := hl.resolve_left (show ¬ (3 : Nat) = 0 by decide)
    have hl := hl.symm
    subst hl
    split at hp
    · rename_i ht
      cases hp
      exact lv_goto hx hb hd (xtgt_ok ht) (k H locs lsC hH hP hS hL)
    · cases hp
  · have hl := hl.resolve_left (show ¬ (3 : Nat) = 0 by decide)
    have hl := hl.symm
    subst hl
    rename_i cn off x9
    split at hp
    · split at hp
      · rename_i ht
        cases cn
        · split at hp
          · rename_i hz
            cases hp
            exact lv_icmp_eq hx hb hd (xtgt_ok ht) (fun _ => (k H locs lsC hH hP hS hL)) (fun z => absurd ((xi_eq _ _).mpr hz) z)
          · rename_i hz
            cases hp
            exact lv_icmp_eq hx hb hd (xtgt_ok ht) (fun z => absurd ((xi_eq _ _).mp z) hz) (fun _ => (k H locs lsC hH hP hS hL))
        · split at hp
          · rename_i hz
            cases hp
            exact lv_icmp_ne hx hb hd (xtgt_ok ht) (fun _ => (k H locs lsC hH hP hS hL)) (fun z => absurd ((xi_eq _ _).mp z) hz)
          · rename_i hz
            cases hp
            exact lv_icmp_ne hx hb hd (xtgt_ok ht) (fun z => absurd (fun q => z ((xi_eq _ _).mpr q)) hz) (fun _ => (k H locs lsC hH hP hS hL))
        · split at hp
          · rename_i hz
            cases hp
            exact lv_icmp_lt hx hb hd (xtgt_ok ht) (fun _ => (k H locs lsC hH hP hS hL)) (fun z => absurd ((xi_lt _ _).mpr hz) z)
          · rename_i hz
            cases hp
            exact lv_icmp_lt hx hb hd (xtgt_ok ht) (fun z => absurd ((xi_lt _ _).mp z) hz) (fun _ => (k H locs lsC hH hP hS hL))
        · split at hp
          · rename_i hz
            cases hp
            exact lv_icmp_ge hx hb hd (xtgt_ok ht) (fun _ => (k H locs lsC hH hP hS hL)) (fun z => absurd ((xi_le _ _).mpr hz) z)
          · rename_i hz
            cases hp
            exact lv_icmp_ge hx hb hd (xtgt_ok ht) (fun z => absurd ((xi_le _ _).mp z) hz) (fun _ => (k H locs lsC hH hP hS hL))
        · split at hp
          · rename_i hz
            cases hp
            exact lv_icmp_gt hx hb hd (xtgt_ok ht) (fun _ => (k H locs lsC hH hP hS hL)) (fun z => absurd ((xi_lt _ _).mpr hz) z)
          · rename_i hz
            cases hp
            exact lv_icmp_gt hx hb hd (xtgt_ok ht) (fun z => absurd ((xi_lt _ _).mp z) hz) (fun _ => (k H locs lsC hH hP hS hL))
        · split at hp
          · rename_i hz
            cases hp
            exact lv_icmp_le hx hb hd (xtgt_ok ht) (fun _ => (k H locs lsC hH hP hS hL)) (fun z => absurd ((xi_le _ _).mpr hz) z)
          · rename_i hz
            cases hp
            exact lv_icmp_le hx hb hd (xtgt_ok ht) (fun z => absurd ((xi_le _ _).mp z) hz) (fun _ => (k H locs lsC hH hP hS hL))
      · cases hp
    · cases hp
  · have hl := hl.resolve_left (show ¬ (3 : Nat) = 0 by decide)
    have hl := hl.symm
    subst hl
    rename_i cn off x9
    split at hp
    · split at hp
      · rename_i ht
        cases cn
        · split at hp
          · rename_i hz
            cases hp
            exact lv_if_eq hx hb hd (xtgt_ok ht) (fun _ => (k H locs lsC hH hP hS hL)) (fun z => absurd ((xi_eq0 _).mpr hz) z)
          · rename_i hz
            cases hp
            exact lv_if_eq hx hb hd (xtgt_ok ht) (fun z => absurd ((xi_eq0 _).mp z) hz) (fun _ => (k H locs lsC hH hP hS hL))
        · split at hp
          · rename_i hz
            cases hp
            exact lv_if_ne hx hb hd (xtgt_ok ht) (fun _ => (k H locs lsC hH hP hS hL)) (fun z => absurd ((xi_eq0 _).mp z) hz)
          · rename_i hz
            cases hp
            exact lv_if_ne hx hb hd (xtgt_ok ht) (fun z => absurd (fun q => z ((xi_eq0 _).mpr q)) hz) (fun _ => (k H locs lsC hH hP hS hL))
        · split at hp
          · rename_i hz
            cases hp
            exact lv_if_lt hx hb hd (xtgt_ok ht) (fun _ => (k H locs lsC hH hP hS hL)) (fun z => absurd ((xi_lt0 _).mpr hz) z)
          · rename_i hz
            cases hp
            exact lv_if_lt hx hb hd (xtgt_ok ht) (fun z => absurd ((xi_lt0 _).mp z) hz) (fun _ => (k H locs lsC hH hP hS hL))
        · split at hp
          · rename_i hz
            cases hp
            exact lv_if_ge hx hb hd (xtgt_ok ht) (fun _ => (k H locs lsC hH hP hS hL)) (fun z => absurd ((xi_0le _).mpr hz) z)
          · rename_i hz
            cases hp
            exact lv_if_ge hx hb hd (xtgt_ok ht) (fun z => absurd ((xi_0le _).mp z) hz) (fun _ => (k H locs lsC hH hP hS hL))
        · split at hp
          · rename_i hz
            cases hp
            exact lv_if_gt hx hb hd (xtgt_ok ht) (fun _ => (k H locs lsC hH hP hS hL)) (fun z => absurd ((xi_0lt _).mpr hz) z)
          · rename_i hz
            cases hp
            exact lv_if_gt hx hb hd (xtgt_ok ht) (fun z => absurd ((xi_0lt _).mp z) hz) (fun _ => (k H locs lsC hH hP hS hL))
        · split at hp
          · rename_i hz
            cases hp
            exact lv_if_le hx hb hd (xtgt_ok ht) (fun _ => (k H locs lsC hH hP hS hL)) (fun z => absurd ((xi_le0 _).mpr hz) z)
          · rename_i hz
            cases hp
            exact lv_if_le hx hb hd (xtgt_ok ht) (fun z => absurd ((xi_le0 _).mp z) hz) (fun _ => (k H locs lsC hH hP hS hL))
      · cases hp
    · cases hp
  · have hl := hl.resolve_left (show ¬ (3 : Nat) = 0 by decide)
    have hl := hl.symm
    subst hl
    split at hp
    · split at hp
      · rename_i ht
        split at hp
        · rename_i hz
          subst hz
          cases hp
          exact lv_ifnullN hx hb hd (xtgt_ok ht) (k H locs lsC hH hP hS hL)
        · rename_i hz
          cases hp
          show W p l e R s m args below meth c H locs _ _ Q (F0 m pc lsC (cv B ra (vR _) :: _))
          rw [cv_r hz]
          exact lv_ifnull hx hb hd (k H locs lsC hH hP hS hL)
      · cases hp
    · cases hp
  · have hl := hl.resolve_left (show ¬ (3 : Nat) = 0 by decide)
    have hl := hl.symm
    subst hl
    split at hp
    · split at hp
      · rename_i ht
        split at hp
        · rename_i hz
          subst hz
          cases hp
          exact lv_ifnonnullN hx hb hd (k H locs lsC hH hP hS hL)
        · rename_i hz
          cases hp
          show W p l e R s m args below meth c H locs _ _ Q (F0 m pc lsC (cv B ra (vR _) :: _))
          rw [cv_r hz]
          exact lv_ifnonnull hx hb hd (xtgt_ok ht) (k H locs lsC hH hP hS hL)
      · cases hp
    · cases hp
  · split at hp
    · rename_i dd lo hj offs _ xx rr
      split at hp
      · rename_i ht
        obtain ⟨ht, hi⟩ := ht
        cases hp
        unfold xsw at ht k
        by_cases h1 : wr xx < lo
        · rw [if_pos h1] at ht k
          exact lv_tableOut hx hb hd (Or.inl h1) (xtgt_ok ht) (k H locs lsC hH hP hS hL)
        · rw [if_neg h1] at ht k
          by_cases h2 : hj < wr xx
          · rw [if_pos h2] at ht k
            exact lv_tableOut hx hb hd (Or.inr h2) (xtgt_ok ht) (k H locs lsC hH hP hS hL)
          · rw [if_neg h2] at ht k
            exact lv_tableIn hx hb hd h1 h2 (x_offs (hi.resolve_right (fun z => z.elim h1 h2))) (xtgt_ok ht) (k H locs lsC hH hP hS hL)
      · cases hp
    · cases hp
  · split at hp
    · split at hp
      · rename_i ht
        cases hp
        exact lv_lookup hx hb hd ht.2 rfl (xtgt_ok ht.1) (k H locs lsC hH hP hS hL)
      · cases hp
    · cases hp
  · cases hp
set_option maxHeartbeats 4000000 in
theorem x_load {pc len k t : Nat} {ins : ClassFile.Instr} {ls : xLs} {st : List xV} {h : xH} {v : xV} (hC : XC rom B ra dA D d y p R s m args meth c) (hd : decode (xinfo y).2.1 pc = .ok (ins, len)) (hl : xlen ins = len)
    (hp : xld ins = some (k, t)) (hv : ls.getD k none = some v) (ht : xsort v = t) (kk : xSt p l e R s m args below meth c Q B ra dA D y n0 w0 (pc + len, ls, v :: st, h)) : xSt p l e R s m args below meth c Q B ra dA D y n0 w0 (pc, ls, st, h) := by
  obtain ⟨hx, hb, hml, hown, hts, hin, hK, hRO, hB, hfr, hlo, hNW⟩ := hC
  intro H locs lsC hH hP hS hL
  have hg := xhas_get hL hv
  have kk := kk H locs lsC hH hP hS hL
  unfold xld at hp
  split at hp
  · have hl := hl.symm
    subst hl
    cases hp
    match v, ht, hg, kk with
    | .inl z, _, hg, kk => exact lv_iload hx hb hd hg kk
  · have hl := hl.symm
    subst hl
    cases hp
    match v, ht, hg, kk with
    | .inl z, _, hg, kk => exact lv_iload_n hx hb hd rfl hg kk
  · have hl := hl.symm
    subst hl
    cases hp
    match v, ht, hg, kk with
    | .inr (.inl z), _, hg, kk => exact lv_lload hx hb hd hg kk
  · have hl := hl.symm
    subst hl
    cases hp
    match v, ht, hg, kk with
    | .inr (.inl z), _, hg, kk => exact lv_lload_n hx hb hd rfl hg kk
  · have hl := hl.symm
    subst hl
    cases hp
    match v, ht, hg, kk with
    | .inr (.inr (.inl r)), _, hg, kk =>
      by_cases hr : r = 0
      · subst hr
        exact lv_aloadN hx hb hd hg kk
      · rw [cv_r hr] at hg
        refine lv_aload hx hb hd hg ?_
        rw [← cv_r (ra := ra) hr]
        exact kk
    | .inr (.inr (.inr (.inl r))), _, hg, kk => exact lv_aload hx hb hd hg kk
  · have hl := hl.symm
    subst hl
    cases hp
    match v, ht, hg, kk with
    | .inr (.inr (.inl r)), _, hg, kk =>
      by_cases hr : r = 0
      · subst hr
        exact lv_aload_nN hx hb hd rfl hg kk
      · rw [cv_r hr] at hg
        refine lv_aload_n hx hb hd rfl hg ?_
        rw [← cv_r (ra := ra) hr]
        exact kk
    | .inr (.inr (.inr (.inl r))), _, hg, kk => exact lv_aload_n hx hb hd rfl hg kk
  · have hl := hl.symm
    subst hl
    cases hp
    match v, ht, hg, kk with
    | .inr (.inr (.inr (.inr z))), _, hg, kk => exact lv_dload hx hb hd hg kk
  · have hl := hl.symm
    subst hl
    cases hp
    match v, ht, hg, kk with
    | .inr (.inr (.inr (.inr z))), _, hg, kk => exact lv_dload_n hx hb hd rfl hg kk
  · cases hp
set_option maxHeartbeats 4000000 in
theorem x_store {pc len k t : Nat} {ins : ClassFile.Instr} {ls : xLs} {st : List xV} {h : xH} {v : xV} (hC : XC rom B ra dA D d y p R s m args meth c) (hd : decode (xinfo y).2.1 pc = .ok (ins, len)) (hl : xlen ins = len)
    (hp : xso ins = some (k, t)) (ht : xsort v = t) (hk : k + xcat v ≤ ls.length) (kk : xSt p l e R s m args below meth c Q B ra dA D y n0 w0 (pc + len, xsto ls k v, st, h)) : xSt p l e R s m args below meth c Q B ra dA D y n0 w0 (pc, ls, v :: st, h) := by
  obtain ⟨hx, hb, hml, hown, hts, hin, hK, hRO, hB, hfr, hlo, hNW⟩ := hC
  intro H locs lsC hH hP hS hL
  obtain ⟨hn, l9, hl9, h9⟩ := hL
  have hn : ls.length = (xinfo y).2.2.1 := hn
  unfold xso at hp
  split at hp
  · have hl := hl.symm
    subst hl
    cases hp
    match v, ht, hk, kk with
    | .inl z, _, hk, kk =>
      have hk : _ + 1 ≤ _ := hk
      exact lv_istore hx hb hd hl9 (by omega) rfl (fun ls2 h2 => kk H locs ls2 hH hP hS (xhas_sto1 (v := vI z) rfl (by omega) hn h9 h2))
  · have hl := hl.symm
    subst hl
    cases hp
    match v, ht, hk, kk with
    | .inl z, _, hk, kk =>
      have hk : _ + 1 ≤ _ := hk
      exact lv_istore_n hx hb hd rfl hl9 (by omega) rfl (fun ls2 h2 => kk H locs ls2 hH hP hS (xhas_sto1 (v := vI z) rfl (by omega) hn h9 h2))
  · have hl := hl.symm
    subst hl
    cases hp
    match v, ht, hk, kk with
    | .inr (.inl z), _, hk, kk =>
      have hk : _ + 2 ≤ _ := hk
      exact lv_lstore hx hb hd hl9 (by omega) rfl (fun ls2 h2 => kk H locs ls2 hH hP hS (xhas_sto2 (v := vL z) rfl (by omega) hn h9 h2))
  · have hl := hl.symm
    subst hl
    cases hp
    match v, ht, hk, kk with
    | .inr (.inl z), _, hk, kk =>
      have hk : _ + 2 ≤ _ := hk
      exact lv_lstore_n hx hb hd rfl hl9 (by omega) rfl (fun ls2 h2 => kk H locs ls2 hH hP hS (xhas_sto2 (v := vL z) rfl (by omega) hn h9 h2))
  · have hl := hl.symm
    subst hl
    cases hp
    match v, ht, hk, kk with
    | .inr (.inr (.inl r)), _, hk, kk =>
      have hk : _ + 1 ≤ _ := hk
      by_cases hr : r = 0
      · subst hr
        exact lv_astoreN hx hb hd hl9 (by omega) rfl (fun ls2 h2 => kk H locs ls2 hH hP hS (xhas_sto1 (v := vR 0) rfl (by omega) hn h9 h2))
      · show W p l e R s m args below meth c H locs _ _ Q (F0 m pc lsC (cv B ra (vR r) :: _))
        rw [cv_r hr]
        exact lv_astore hx hb hd hl9 (by omega) rfl (fun ls2 h2 => kk H locs ls2 hH hP hS (xhas_sto1 (v := vR r) rfl (by omega) hn h9 (by rw [cv_r hr]; exact h2)))
    | .inr (.inr (.inr (.inl r))), _, hk, kk =>
      have hk : _ + 1 ≤ _ := hk
      exact lv_astore hx hb hd hl9 (by omega) rfl (fun ls2 h2 => kk H locs ls2 hH hP hS (xhas_sto1 (v := vS r) rfl (by omega) hn h9 h2))
  · have hl := hl.symm
    subst hl
    cases hp
    match v, ht, hk, kk with
    | .inr (.inr (.inl r)), _, hk, kk =>
      have hk : _ + 1 ≤ _ := hk
      by_cases hr : r = 0
      · subst hr
        exact lv_astore_nN hx hb hd rfl hl9 (by omega) rfl (fun ls2 h2 => kk H locs ls2 hH hP hS (xhas_sto1 (v := vR 0) rfl (by omega) hn h9 h2))
      · show W p l e R s m args below meth c H locs _ _ Q (F0 m pc lsC (cv B ra (vR r) :: _))
        rw [cv_r hr]
        exact lv_astore_n hx hb hd rfl hl9 (by omega) rfl (fun ls2 h2 => kk H locs ls2 hH hP hS (xhas_sto1 (v := vR r) rfl (by omega) hn h9 (by rw [cv_r hr]; exact h2)))
    | .inr (.inr (.inr (.inl r))), _, hk, kk =>
      have hk : _ + 1 ≤ _ := hk
      exact lv_astore_n hx hb hd rfl hl9 (by omega) rfl (fun ls2 h2 => kk H locs ls2 hH hP hS (xhas_sto1 (v := vS r) rfl (by omega) hn h9 h2))
  · have hl := hl.symm
    subst hl
    cases hp
    match v, ht, hk, kk with
    | .inr (.inr (.inr (.inr z))), _, hk, kk =>
      have hk : _ + 2 ≤ _ := hk
      exact lv_dstore hx hb hd hl9 (by omega) rfl (fun ls2 h2 => kk H locs ls2 hH hP hS (xhas_sto2 (v := vD z) rfl (by omega) hn h9 h2))
  · have hl := hl.symm
    subst hl
    cases hp
    match v, ht, hk, kk with
    | .inr (.inr (.inr (.inr z))), _, hk, kk =>
      have hk : _ + 2 ≤ _ := hk
      exact lv_dstore_n hx hb hd rfl hl9 (by omega) rfl (fun ls2 h2 => kk H locs ls2 hH hP hS (xhas_sto2 (v := vD z) rfl (by omega) hn h9 h2))
  · cases hp
theorem x_iinc {pc len k : Nat} {n z : Int} {ls : xLs} {st : List xV} {h : xH} (hC : XC rom B ra dA D d y p R s m args meth c) (hd : decode (xinfo y).2.1 pc = .ok (.iinc k n, len)) (hl : xlen (.iinc k n) = len)
    (hv : ls.getD k none = some (vI z)) (kk : xSt p l e R s m args below meth c Q B ra dA D y n0 w0 (pc + 3, ls.set k (some (vI (z + n))), st, h)) : xSt p l e R s m args below meth c Q B ra dA D y n0 w0 (pc, ls, st, h) := by
  obtain ⟨hx, hb, hml, hown, hts, hin, hK, hRO, hB, hfr, hlo, hNW⟩ := hC
  intro H locs lsC hH hP hS hL
  obtain ⟨hn, l9, hl9, h9⟩ := hL
  have hn : ls.length = (xinfo y).2.2.1 := hn
  have hl := hl.symm
  subst hl
  obtain ⟨j, hj⟩ := List.getElem?_of_mem (h9 k _ hv)
  have hkl : k < ls.length := by
    rcases Nat.lt_or_ge k ls.length with q | q
    · exact q
    · rw [List.getD_eq_getElem?_getD, List.getElem?_eq_none q] at hv; cases hv
  exact lv_iinc hx hb hd hl9 hj (Int32.ofInt_add z n).symm (by omega) rfl (fun ls2 h2 => kk H locs ls2 hH hP hS (xhas_inc (by omega) hn hl9 h9 hv h2))
end X2
end
section
/-! THE INTERPRETER IS SOUND, 3: objects and arrays -/
def xclP (ci : Nat) (q : vw_C) (ty : Nat → FieldType) : Prop := (∀ w ∈ u_ws q.1 q.2.1 q.2.2, w ∈ xtbl) ∧ q.2.2 = xnf ci ∧ ci < 100 ∧ (∀ k, k < q.2.2 → parseFieldDescriptor (q.2.1 k).2.2.1 = some (ty k)) ∧ (∀ a, a < q.2.2 → ∀ b, b < q.2.2 → a ≠ b → (q.2.1 a).2.1 ≠ (q.2.1 b).2.1) ∧
  (∀ k, k < q.2.2 → (xfk ci k = 0 ∧ ty k = .int ∧ (q.2.1 k).2.2.2 = false) ∨ (xfk ci k = 1 ∧ ty k = .boolean ∧ (q.2.1 k).2.2.2 = false) ∨ (xfk ci k = 2 ∧ ((∃ n, ty k = .object n) ∨ ∃ t, ty k = .array t) ∧ (q.2.1 k).2.2.2 = true)) ∧ Cond.instantiable q.1 q.2.2 ∈ xtbl ∧ Cond.initialized q.1 ∈ xtbl ∧ ∀ k, k < q.2.2 → (q.2.1 k).1 = q.1
def xclA : Prop := ∀ ci q, vwCl[ci]? = some q → ∃ ty, xclP ci q ty
/-- the arrays' classes are there -/
def xarA : Prop := Cond.arrayClass .int ∈ xtbl ∧ Cond.arrayClass .long ∈ xtbl ∧ Cond.arrayClass .char ∈ xtbl ∧ Cond.arrayOver (.object "PedalLayers$Pedal") ∈ lw_tbl ∧ Cond.arrayOver (.object "PedalLayers$Layer") ∈ lw_tbl
section X3
variable {p : Program} {l : Launch} {e : Env} {R : Room} {s : State} {m : MethodId} {args : Array Value} {below : List Frame} {meth : Method} {c : Code} {Q : State → Prop} {B : Nat} {ra : Nat → Nat} {dA : Nat → ClassId} {D : va_G} {rom : xRom} {d y n0 w0 : Nat}
theorem W_size {H : Heap} {locs : List Loc} {slots : Nat} {h : xH} {g : JFrame} (hs : s.heap.size = B + n0 + 1) (hn : n0 ≤ gN h.1) (hP : va_P D vwCl (wsx dA B h) H) (hS : va_S (XA B) s.heap H locs)
    (k : H.size = B + gN h.1 + 1 → W p l e R s m args below meth c H locs (gN h.1 - n0) slots Q g) : W p l e R s m args below meth c H locs (gN h.1 - n0) slots Q g := by
  intro T hT X
  have h1 := X.heapSize
  rw [hT] at h1
  have h2 : B + gN h.1 + 1 ≤ H.size := by
    by_cases z : gN h.1 = 0
    · have := hS.1; omega
    · have := (hP _ _ (wsx_at (dA := dA) (B := B) (h := h) (r := gN h.1) (by omega) (Nat.le_refl _))).lt
      have this : B + gN h.1 < H.size := this
      omega
  exact k (by omega) T hT X
theorem xcont_obj {h : xH} {r ci : Nat} (h1 : gT h.1 r = ci) (h2 : ci < 100) : xcont dA B h r = .inr (ci, xfs B h r) := by
  subst h1; exact if_pos h2
theorem xcont_arr {h : xH} {r t : Nat} (h1 : gT h.1 r = t) (h2 : 100 ≤ t) : xcont dA B h r = .inl (dA t, gZ h.1 r, xarr B h r) := by
  subst h1; exact if_neg (by omega)
theorem xarr_i {h : xH} {r : Nat} (h1 : gT h.1 r = 100 ∨ gT h.1 r = 102) : xarr B h r = .inl (fun j => Int32.ofInt (h.2 r j)) := by
  unfold xarr; rw [if_neg (by omega), if_neg (by omega)]
theorem xarr_l {h : xH} {r : Nat} (h1 : gT h.1 r = 101) : xarr B h r = .inr (.inl (fun j => Int64.ofInt (h.2 r j))) := by
  unfold xarr; rw [if_pos h1]
theorem xarr_q {h : xH} {r : Nat} (h1 : gT h.1 r = 103 ∨ gT h.1 r = 104) : xarr B h r = .inr (.inr (.inr (.inr (fun j => xrefo B (gP h.1 r j))))) := by
  unfold xarr; rw [if_neg (by omega), if_pos h1]
theorem xfs_len (h : xH) (r : Nat) : (xfs B h r).length = xnf (gT h.1 r) := by
  unfold xfs; rw [List.length_map, List.length_range]
theorem xfs_get {h : xH} {r k : Nat} (hk : k < xnf (gT h.1 r)) : (xfs B h r)[k]? = some (xfv B (gT h.1 r) k (gP h.1 r k) (h.2 r k)) := by
  unfold xfs; rw [List.getElem?_map, List.getElem?_range hk]; rfl
theorem xfs_set {h h' : xH} {r k : Nat} {v : Value} (ht : gT h'.1 r = gT h.1 r) (hk : k < xnf (gT h.1 r)) (he : xfv B (gT h.1 r) k (gP h'.1 r k) (h'.2 r k) = v) (ho : ∀ j, j ≠ k → gP h'.1 r j = gP h.1 r j ∧ h'.2 r j = h.2 r j) : (xfs B h r).set k v = xfs B h' r := by
  apply List.ext_getElem?
  intro j
  by_cases hj : j = k
  · subst hj
    rw [List.getElem?_set_self (by rw [xfs_len]; exact hk), xfs_get (by rw [ht]; exact hk), ht, he]
  · rw [List.getElem?_set_ne (Ne.symm hj)]
    by_cases hl : j < xnf (gT h.1 r)
    · rw [xfs_get hl, xfs_get (by rw [ht]; exact hl), ht, (ho j hj).1, (ho j hj).2]
    · rw [List.getElem?_eq_none (by rw [xfs_len]; omega), List.getElem?_eq_none (by rw [xfs_len, ht]; omega)]
theorem xcont_cong {h h' : xH} {r : Nat} (h1 : gT h'.1 r = gT h.1 r) (h2 : gZ h'.1 r = gZ h.1 r) (h3 : gP h'.1 r = gP h.1 r) (h4 : h'.2 r = h.2 r) : xcont dA B h' r = xcont dA B h r := by
  unfold xcont xfs xarr; rw [h1, h2, h3, h4]
theorem xset_ne {α : Type} {M : Nat → Nat → α} {r j i : Nat} {v : α} (h : i ≠ r) : xset M r j v i = M i := by
  funext b; unfold xset; rw [if_neg (fun q => h q.1)]
theorem xset_at {α : Type} {M : Nat → Nat → α} {r j : Nat} {v : α} : xset M r j v r j = v := by unfold xset; rw [if_pos ⟨rfl, rfl⟩]
theorem xset_ot {α : Type} {M : Nat → Nat → α} {r j k : Nat} {v : α} (h : k ≠ j) : xset M r j v r k = M r k := by unfold xset; rw [if_neg (fun q => h q.2)]
theorem xrow_ne {α : Type} {M : Nat → α} {r i : Nat} {f : α} (h : i ≠ r) : xrow M r f i = M i := if_neg h
theorem xrow_at {α : Type} {M : Nat → α} {r : Nat} {f : α} : xrow M r f r = f := if_pos rfl
theorem xset_row {M : Nat → Nat → Int} {r j : Nat} {v : Int} : (fun k => Int32.ofInt (xset M r j v r k)) = upd (fun k => Int32.ofInt (M r k)) j (Int32.ofInt v) := by
  funext k; unfold xset upd
  by_cases hk : k = j
  · rw [if_pos ⟨rfl, hk⟩, if_pos hk]
  · rw [if_neg (fun q => hk q.2), if_neg hk]
theorem xset_rowL {M : Nat → Nat → Int} {r j : Nat} {v : Int} : (fun k => Int64.ofInt (xset M r j v r k)) = vp_updL (fun k => Int64.ofInt (M r k)) j (Int64.ofInt v) := by
  funext k; unfold xset vp_updL
  by_cases hk : k = j
  · rw [if_pos ⟨rfl, hk⟩, if_pos hk]
  · rw [if_neg (fun q => hk q.2), if_neg hk]
theorem xfv_cv {ci k r : Nat} {z : Int} : xfv B ci k r z = cv B ra (if xfk ci k = 2 then vR r else vI z) := by
  unfold xfv
  split
  · exact xrefo_cv B ra r
  · rfl
theorem xmem {wi : Nat} {w : Cond} {b : Bool} (h : decide (lw_tbl[wi]? = some w) = true) : w ∈ lw_tbl := List.mem_of_getElem? (of_decide_eq_true h)
set_option maxHeartbeats 4000000 in
theorem x_get {pc len i kd ci k wi r : Nat} {ls : xLs} {st : List xV} {h : xH} (hC : XC rom B ra dA D d y p R s m args meth c) (hcl : xclA) (hsq : xsq (xinfo y).1.cls (.getfield i, len, kd, ci, k, wi) = true) (hd : decode (xinfo y).2.1 pc = .ok (.getfield i, 3))
    (ho : xobj h.1 r ci) (kk : xSt p l e R s m args below meth c Q B ra dA D y n0 w0 (pc + 3, ls, (if xfk ci k = 2 then vR (gP h.1 r k) else vI (h.2 r k)) :: st, h)) : xSt p l e R s m args below meth c Q B ra dA D y n0 w0 (pc, ls, vR r :: st, h) := by
  obtain ⟨hx, hb, hml, hown, hts, hin, hK, hRO, hB, hfr, hlo, hNW⟩ := hC
  intro H locs lsC hH hP hS hL
  obtain ⟨o1, o2, o3⟩ := ho
  unfold xsq at hsq
  dsimp only at hsq
  split at hsq
  · rename_i C T N hc
    simp only [Bool.and_eq_true, decide_eq_true_eq] at hsq
    obtain ⟨hk, hw⟩ := hsq
    obtain ⟨ty, c1, c2, c3, c4, c5, c6, c7, c8, c9⟩ := hcl ci _ hc
    have he := wsx_at (dA := dA) (B := B) (h := h) o1 o2
    rw [xcont_obj o3 c3] at he
    have hg : (xfs B h r)[k]? = some (xfv B (gT h.1 r) k (gP h.1 r k) (h.2 r k)) := xfs_get (by rw [o3, ← c2]; exact hk)
    rw [o3, xfv_cv (ra := ra)] at hg
    have kk := kk H locs lsC hH hP hS hL
    show W p l e R s m args below meth c H locs _ _ Q (F0 m pc lsC (cv B ra (vR r) :: _))
    rw [cv_r (by omega)]
    split at hw
    · exact va_get (D := D) (ci := ci) (C := C) (T := T) (N := N) hx hb hts c1 hown hK hP (r - 1) he hc k hk (xtbl_of hts (List.mem_of_getElem? (of_decide_eq_true hw)) rfl) (fun _ h9 => h9) hg hd kk
    · exact va_getN (D := D) (ci := ci) (C := C) (T := T) (N := N) hx hb hts c1 hown hK hP (r - 1) he hc k hk (hNW.use (List.mem_of_getElem? (of_decide_eq_true hw)) rfl) (fun _ h9 => h9) hg hd kk
  · cases hsq
set_option maxHeartbeats 4000000 in
theorem x_put {pc len i kd ci k wi r : Nat} {z : Int} {ls : xLs} {st : List xV} {h : xH} (hC : XC rom B ra dA D d y p R s m args meth c) (hs : s.heap.size = B + n0 + 1) (hn0 : n0 ≤ gN h.1) (hcl : xclA) (hsq : xsq (xinfo y).1.cls (.putfield i, len, kd, ci, k, wi) = true) (hd : decode (xinfo y).2.1 pc = .ok (.putfield i, 3))
    (ho : xobj h.1 r ci) (hz : xfk ci k = 0 ∨ (xfk ci k = 1 ∧ (wr z = 0 ∨ wr z = 1))) (kk : xSt p l e R s m args below meth c Q B ra dA D y n0 w0 (pc + 3, ls, st, (h.1, xset h.2 r k z))) : xSt p l e R s m args below meth c Q B ra dA D y n0 w0 (pc, ls, vI z :: vR r :: st, h) := by
  obtain ⟨hx, hb, hml, hown, hts, hin, hK, hRO, hB, hfr, hlo, hNW⟩ := hC
  intro H locs lsC hH hP hS hL
  obtain ⟨o1, o2, o3⟩ := ho
  unfold xsq at hsq
  dsimp only at hsq
  split at hsq
  · rename_i C T N hc
    simp only [Bool.and_eq_true, decide_eq_true_eq] at hsq
    obtain ⟨hk, hw⟩ := hsq
    obtain ⟨ty, c1, c2, c3, c4, c5, c6, c7, c8, c9⟩ := hcl ci _ hc
    have he := wsx_at (dA := dA) (B := B) (h := h) o1 o2
    rw [xcont_obj o3 c3] at he
    have c6 := c6 k hk
    have hfin : (T k).2.2.2 = false := by
      rcases c6 with c6 | c6 | c6
      · exact c6.2.2
      · exact c6.2.2
      · omega
    have hty : narrow (ty k) (.int (Int32.ofInt z)) = .int (Int32.ofInt z) ∧ fits (ty k) (.int (Int32.ofInt z)) = true := by
      rcases c6 with c6 | c6 | c6
      · rw [c6.2.1]; exact ⟨rfl, rfl⟩
      · rw [c6.2.1]
        have hz := hz.resolve_left (by omega)
        rcases hz.2 with z0 | z0
        · rw [show Int32.ofInt z = 0 from (xi_eq0 z).mpr z0]; exact ⟨rfl, rfl⟩
        · rw [show Int32.ofInt z = 1 from Int32.toInt_inj.mp z0]; exact ⟨rfl, rfl⟩
      · omega
    have hlen : k < (xfs B h r).length := by rw [xfs_len, o3, ← c2]; exact hk
    have hset : (wsx dA B h).set (r - 1) (B + r, .inr (ci, (xfs B h r).set k (.int (Int32.ofInt z)))) = wsx dA B (h.1, xset h.2 r k z) := by
      refine wsx_set o1 o2 rfl (fun j hj => xcont_cong rfl rfl rfl (xset_ne hj)) ?_
      rw [xcont_obj (h := (h.1, xset h.2 r k z)) o3 c3]
      rw [xfs_set (B := B) (h := h) (h' := (h.1, xset h.2 r k z)) (v := .int (Int32.ofInt z)) rfl (by rw [o3, ← c2]; exact hk) ?_ (fun j hj => ⟨rfl, xset_ot hj⟩)]
      show xfv B (gT h.1 r) k (gP h.1 r k) (xset h.2 r k z r k) = _
      rw [xset_at, o3]
      unfold xfv
      rw [if_neg (by omega)]
    have go : ∀ (H1 : Heap) (locs1 : List Loc), va_P D vwCl ((wsx dA B h).set (r - 1) (B + r, .inr (ci, (xfs B h r).set k (.int (Int32.ofInt z))))) H1 → va_D (XA B) ((wsx dA B h).set (r - 1) (B + r, .inr (ci, (xfs B h r).set k (.int (Int32.ofInt z))))) → va_S (XA B) s.heap H1 locs1 → W p l e R s m args below meth c H1 locs1 (gN h.1 - n0) (gW h.1 - w0) Q (F0 m (pc + 3) lsC (st.map (cv B ra))) := by
      intro H1 locs1 hP1 hD1 hS1
      rw [hset] at hP1
      exact W_size (h := (h.1, xset h.2 r k z)) hs hn0 hP1 hS1 (fun hz1 => kk H1 locs1 lsC hz1 hP1 hS1 hL)
    show W p l e R s m args below meth c H locs _ _ Q (F0 m pc lsC (.int (Int32.ofInt z) :: cv B ra (vR r) :: _))
    rw [cv_r (by omega)]
    split at hw
    · exact va_put (D := D) (ci := ci) (C := C) (T := T) (N := N) hx hb hts c1 ty c4 c5 hown hK hP (wsx_D dA B h) hS (r - 1) he hc k hk (xtbl_of hts (List.mem_of_getElem? (of_decide_eq_true hw)) rfl) (fun _ h9 => h9) hfin (c4 k hk) hty.1 hty.2 hlen hd go
    · exact va_putN (D := D) (ci := ci) (C := C) (T := T) (N := N) hx hb hts c1 ty c4 c5 hown hK hP (wsx_D dA B h) hS (r - 1) he hc k hk (hNW.use (List.mem_of_getElem? (of_decide_eq_true hw)) rfl) (fun _ h9 => h9) hfin (c4 k hk) hty.1 hty.2 hlen hd go
  · cases hsq
end X3
end
section
/-! THE INTERPRETER IS SOUND, 4: references put, statics, arrays, new objects -/
section X4
variable {p : Program} {l : Launch} {e : Env} {R : Room} {s : State} {m : MethodId} {args : Array Value} {below : List Frame} {meth : Method} {c : Code} {Q : State → Prop} {B : Nat} {ra : Nat → Nat} {dA : Nat → ClassId} {D : va_G} {rom : xRom} {d y n0 w0 : Nat}
set_option maxHeartbeats 4000000 in
theorem x_putF {pc len i kd ci k wi r v : Nat} {ls : xLs} {st : List xV} {h : xH} (hC : XC rom B ra dA D d y p R s m args meth c) (hs : s.heap.size = B + n0 + 1) (hn0 : n0 ≤ gN h.1) (hcl : xclA) (hM : (xinfo y).2.2.2.2.2.2 < 99 → ∃ T N, vwCl[(xinfo y).2.2.2.2.2.2]? = some ((xinfo y).1.cls, T, N)) (hsq : xsq (xinfo y).1.cls (.putfield i, len, kd, ci, k, wi) = true) (hd : decode (xinfo y).2.1 pc = .ok (.putfield i, 3))
    (ho : xobj h.1 r ci) (hz : xfk ci k = 2 ∧ (xinfo y).2.2.2.2.2.1 = 2 ∧ kd = 0 ∧ (xinfo y).2.2.2.2.2.2 = ci) (kk : xSt p l e R s m args below meth c Q B ra dA D y n0 w0 (pc + 3, ls, st, ((gN h.1, gW h.1, gT h.1, gZ h.1, xset (gP h.1) r k v), h.2))) : xSt p l e R s m args below meth c Q B ra dA D y n0 w0 (pc, ls, vR v :: vR r :: st, h) := by
  obtain ⟨hx, hb, hml, hown, hts, hin, hK, hRO, hB, hfr, hlo, hNW⟩ := hC
  intro H locs lsC hH hP hS hL
  obtain ⟨o1, o2, o3⟩ := ho
  obtain ⟨z1, z2, z3, z4⟩ := hz
  subst z3
  unfold xsq at hsq
  dsimp only at hsq
  split at hsq
  · rename_i C T N hc
    simp only [Bool.and_eq_true, decide_eq_true_eq, if_true] at hsq
    obtain ⟨hk, hw⟩ := hsq
    obtain ⟨ty, c1, c2, c3, c4, c5, c6, c7, c8, c9⟩ := hcl ci _ hc
    have hCn : C = (xinfo y).1.cls := by
      have hci : ci < vwCl.length := (List.getElem?_eq_some_iff.mp hc).1
      have hci : ci < 12 := hci
      obtain ⟨T', N', hm⟩ := hM (by omega)
      rw [z4, hc] at hm
      exact (congrArg (fun q => q.1) (Option.some.inj hm))
    have he := wsx_at (dA := dA) (B := B) (h := h) o1 o2
    rw [xcont_obj o3 c3] at he
    have c6 := (c6 k hk).resolve_left (by omega)
    have c6 := c6.resolve_left (by omega)
    generalize hh' : (((gN h.1, gW h.1, gT h.1, gZ h.1, xset (gP h.1) r k v), h.2) : xH) = h' at kk
    have e1 : gN h'.1 = gN h.1 := by rw [← hh']
    have e2 : gW h'.1 = gW h.1 := by rw [← hh']
    have e3 : gT h'.1 = gT h.1 := by rw [← hh']
    have e4 : gZ h'.1 = gZ h.1 := by rw [← hh']
    have e5 : gP h'.1 = xset (gP h.1) r k v := by rw [← hh']
    have e6 : h'.2 = h.2 := by rw [← hh']
    have hlen : k < (xfs B h r).length := by rw [xfs_len, o3, ← c2]; exact hk
    have hset : (wsx dA B h).set (r - 1) (B + r, .inr (ci, (xfs B h r).set k (cv B ra (vR v)))) = wsx dA B h' := by
      refine wsx_set o1 o2 e1 (fun j hj => xcont_cong (by rw [e3]) (by rw [e4]) (by rw [e5, xset_ne hj]) (by rw [e6])) ?_
      rw [xcont_obj (h := h') (by rw [e3]; exact o3) c3]
      rw [xfs_set (B := B) (h := h) (h' := h') (v := cv B ra (vR v)) (by rw [e3]) (by rw [o3, ← c2]; exact hk) ?_ (fun j hj => ⟨by rw [e5, xset_ot hj], by rw [e6]⟩)]
      rw [e5, e6, xset_at, o3, xfv_cv (ra := ra), if_pos z1]
    have go : ∀ (H1 : Heap) (locs1 : List Loc), va_P D vwCl ((wsx dA B h).set (r - 1) (B + r, .inr (ci, (xfs B h r).set k (cv B ra (vR v))))) H1 → va_D (XA B) ((wsx dA B h).set (r - 1) (B + r, .inr (ci, (xfs B h r).set k (cv B ra (vR v))))) → va_S (XA B) s.heap H1 locs1 → W p l e R s m args below meth c H1 locs1 (gN h.1 - n0) (gW h.1 - w0) Q (F0 m (pc + 3) lsC (st.map (cv B ra))) := by
      intro H1 locs1 hP1 hD1 hS1
      rw [hset] at hP1
      have kk := fun hz1 => kk H1 locs1 lsC hz1 hP1 hS1 hL
      dsimp only at kk
      rw [e1, e2] at kk
      refine W_size (h := h') hs (by rw [e1]; exact hn0) hP1 hS1 (fun hz1 => ?_) |> fun q => by rw [e1] at q; exact q
      rw [e1] at hz1 ⊢
      exact kk hz1
    have hty : narrow (ty k) (cv B ra (vR v)) = cv B ra (vR v) ∧ fits (ty k) (cv B ra (vR v)) = true := by
      by_cases hv : v = 0
      · subst hv
        rw [cv_0]
        rcases c6.2.1 with ⟨n, hn⟩ | ⟨n, hn⟩ <;> (rw [hn]; exact ⟨rfl, rfl⟩)
      · rw [cv_r hv]
        rcases c6.2.1 with ⟨n, hn⟩ | ⟨n, hn⟩ <;> (rw [hn]; exact ⟨rfl, rfl⟩)
    show W p l e R s m args below meth c H locs _ _ Q (F0 m pc lsC (cv B ra (vR v) :: cv B ra (vR r) :: _))
    rw [cv_r (r := r) (by omega)]
    exact va_putF (D := D) (ci := ci) (C := C) (T := T) (N := N) hx hb hts c1 ty c4 c5 hown hK hP (wsx_D dA B h) hS (r - 1) he hc k hk (xtbl_of hts (List.mem_of_getElem? hw) rfl) (fun _ h9 => h9) c6.2.2 (hin z2) ((c9 k hk).trans hCn) (c4 k hk) hty.1 hty.2 hlen hd go
  · cases hsq
theorem x_gets {pc len i kd k b wi : Nat} {ls : xLs} {st : List xV} {h : xH} (hC : XC rom B ra dA D d y p R s m args meth c) (hsq : xsq (xinfo y).1.cls (.getstatic i, len, kd, k, b, wi) = true) (hd : decode (xinfo y).2.1 pc = .ok (.getstatic i, 3))
    (kk : xSt p l e R s m args below meth c Q B ra dA D y n0 w0 (pc + 3, ls, vS k :: st, h)) : xSt p l e R s m args below meth c Q B ra dA D y n0 w0 (pc, ls, st, h) := by
  obtain ⟨hx, hb, hml, hown, hts, hin, hK, hRO, hB, hfr, hlo, hNW⟩ := hC
  intro H locs lsC hH hP hS hL
  unfold xsq at hsq
  simp only [Bool.and_eq_true, decide_eq_true_eq] at hsq
  exact va_gets hx hb (hRO.2 k hsq.1) hS hown (xtbl_of hts (List.mem_of_getElem? hsq.2) rfl) (fun _ h9 => h9) hd (kk H locs lsC hH hP hS hL)
set_option maxHeartbeats 4000000 in
theorem x_ald {pc r : Nat} {j : Int} {ls : xLs} {st : List xV} {h : xH} (hC : XC rom B ra dA D d y p R s m args meth c)
    (h0 : 0 ≤ wr j) (h1 : wr j < gZ h.1 r) (o1 : 1 ≤ r) (o2 : r ≤ gN h.1) {w : xV}
    (hcs : (decode (xinfo y).2.1 pc = .ok (.iaload, 1) ∧ gT h.1 r = 100 ∧ w = vI (h.2 r (wr j).toNat)) ∨ (decode (xinfo y).2.1 pc = .ok (.caload, 1) ∧ gT h.1 r = 102 ∧ w = vI (h.2 r (wr j).toNat)) ∨ (decode (xinfo y).2.1 pc = .ok (.laload, 1) ∧ gT h.1 r = 101 ∧ w = vL (h.2 r (wr j).toNat)) ∨ (decode (xinfo y).2.1 pc = .ok (.aaload, 1) ∧ (gT h.1 r = 103 ∨ gT h.1 r = 104) ∧ w = vR (gP h.1 r (wr j).toNat)))
    (kk : xSt p l e R s m args below meth c Q B ra dA D y n0 w0 (pc + 1, ls, w :: st, h)) : xSt p l e R s m args below meth c Q B ra dA D y n0 w0 (pc, ls, vI j :: vR r :: st, h) := by
  obtain ⟨hx, hb, hml, hown, hts, hin, hK, hRO, hB, hfr, hlo, hNW⟩ := hC
  intro H locs lsC hH hP hS hL
  have he := wsx_at (dA := dA) (B := B) (h := h) o1 o2
  have kk := kk H locs lsC hH hP hS hL
  show W p l e R s m args below meth c H locs _ _ Q (F0 m pc lsC (.int (Int32.ofInt j) :: cv B ra (vR r) :: _))
  rw [cv_r (by omega)]
  rcases hcs with ⟨hd, ht, rfl⟩ | ⟨hd, ht, rfl⟩ | ⟨hd, ht, rfl⟩ | ⟨hd, ht, rfl⟩
  · rw [xcont_arr ht (by omega), xarr_i (Or.inl ht)] at he
    exact va_iald hx hb hK hP (r - 1) 0 he rfl (xi_in h0 h1) hd kk
  · rw [xcont_arr ht (by omega), xarr_i (Or.inr ht)] at he
    exact va_cald hx hb hK hP (r - 1) 2 he rfl (xi_in h0 h1) hd kk
  · rw [xcont_arr ht (by omega), xarr_l ht] at he
    exact va_lald hx hb hK hP (r - 1) 1 he rfl (xi_in h0 h1) hd kk
  · have e9 := xrefo_cv B ra (gP h.1 r (wr j).toNat)
    rcases ht with ht | ht
    · rw [xcont_arr ht (by omega), xarr_q (Or.inl ht)] at he
      exact va_aldq hx hb hK hP (r - 1) 3 he rfl (xi_in h0 h1) hd (W_top e9.symm kk)
    · rw [xcont_arr ht (by omega), xarr_q (Or.inr ht)] at he
      exact va_aldq hx hb hK hP (r - 1) 4 he rfl (xi_in h0 h1) hd (W_top e9.symm kk)
theorem x_ald_rom {pc k : Nat} {j : Int} {ls : xLs} {st : List xV} {h : xH} (hC : XC rom B ra dA D d y p R s m args meth c) (hk : k < 3) (h0 : 0 ≤ wr j) (h1 : wr j < (rom k).1) (hd : decode (xinfo y).2.1 pc = .ok (.iaload, 1))
    (kk : xSt p l e R s m args below meth c Q B ra dA D y n0 w0 (pc + 1, ls, vI ((rom k).2 (wr j).toNat) :: st, h)) : xSt p l e R s m args below meth c Q B ra dA D y n0 w0 (pc, ls, vI j :: vS k :: st, h) := by
  obtain ⟨hx, hb, hml, hown, hts, hin, hK, hRO, hB, hfr, hlo, hNW⟩ := hC
  intro H locs lsC hH hP hS hL
  exact va_ti hx hb (hRO.1 k hk) hS (xi_in h0 h1) rfl hd (kk H locs lsC hH hP hS hL)
theorem x_alen {pc r : Nat} {ls : xLs} {st : List xV} {h : xH} (hC : XC rom B ra dA D d y p R s m args meth c) (o1 : 1 ≤ r) (o2 : r ≤ gN h.1) (o3 : 100 ≤ gT h.1 r) (o4 : gT h.1 r < 105) (hd : decode (xinfo y).2.1 pc = .ok (.arraylength, 1))
    (kk : xSt p l e R s m args below meth c Q B ra dA D y n0 w0 (pc + 1, ls, vI (gZ h.1 r) :: st, h)) : xSt p l e R s m args below meth c Q B ra dA D y n0 w0 (pc, ls, vR r :: st, h) := by
  obtain ⟨hx, hb, hml, hown, hts, hin, hK, hRO, hB, hfr, hlo, hNW⟩ := hC
  intro H locs lsC hH hP hS hL
  have he := wsx_at (dA := dA) (B := B) (h := h) o1 o2
  rw [xcont_arr rfl o3] at he
  show W p l e R s m args below meth c H locs _ _ Q (F0 m pc lsC (cv B ra (vR r) :: _))
  rw [cv_r (by omega)]
  have ht : ∃ (t : Nat) (ty : FieldType), (xtys dA)[t]? = some (dA (gT h.1 r), ty) := by
    rcases (show gT h.1 r = 100 ∨ gT h.1 r = 101 ∨ gT h.1 r = 102 ∨ gT h.1 r = 103 ∨ gT h.1 r = 104 by omega) with q | q | q | q | q <;> rw [q]
    · exact ⟨0, _, rfl⟩
    · exact ⟨1, _, rfl⟩
    · exact ⟨2, _, rfl⟩
    · exact ⟨3, _, rfl⟩
    · exact ⟨4, _, rfl⟩
  obtain ⟨t, ty, ht⟩ := ht
  exact va_alen hx hb hK hP (r - 1) t he ht (xi_nat _) hd (kk H locs lsC hH hP hS hL)
theorem x_alen_rom {pc k : Nat} {ls : xLs} {st : List xV} {h : xH} (hC : XC rom B ra dA D d y p R s m args meth c) (hk : k < 3) (hd : decode (xinfo y).2.1 pc = .ok (.arraylength, 1))
    (kk : xSt p l e R s m args below meth c Q B ra dA D y n0 w0 (pc + 1, ls, vI (rom k).1 :: st, h)) : xSt p l e R s m args below meth c Q B ra dA D y n0 w0 (pc, ls, vS k :: st, h) := by
  obtain ⟨hx, hb, hml, hown, hts, hin, hK, hRO, hB, hfr, hlo, hNW⟩ := hC
  intro H locs lsC hH hP hS hL
  exact va_tlen hx hb (hRO.1 k hk) hS (xi_nat _) hd (kk H locs lsC hH hP hS hL)
set_option maxHeartbeats 4000000 in
theorem x_ast {pc r : Nat} {j z : Int} {w : xV} {ls : xLs} {st : List xV} {h : xH} (hC : XC rom B ra dA D d y p R s m args meth c) (hs : s.heap.size = B + n0 + 1) (hn0 : n0 ≤ gN h.1)
    (h0 : 0 ≤ wr j) (h1 : wr j < gZ h.1 r) (o1 : 1 ≤ r) (o2 : r ≤ gN h.1)
    (hcs : (decode (xinfo y).2.1 pc = .ok (.iastore, 1) ∧ gT h.1 r = 100 ∧ w = vI z) ∨ (decode (xinfo y).2.1 pc = .ok (.castore, 1) ∧ gT h.1 r = 102 ∧ w = vI z ∧ 0 ≤ wr z ∧ wr z < 65536) ∨ (decode (xinfo y).2.1 pc = .ok (.lastore, 1) ∧ gT h.1 r = 101 ∧ w = vL z))
    (kk : xSt p l e R s m args below meth c Q B ra dA D y n0 w0 (pc + 1, ls, st, (h.1, xset h.2 r (wr j).toNat z))) : xSt p l e R s m args below meth c Q B ra dA D y n0 w0 (pc, ls, w :: vI j :: vR r :: st, h) := by
  obtain ⟨hx, hb, hml, hown, hts, hin, hK, hRO, hB, hfr, hlo, hNW⟩ := hC
  intro H locs lsC hH hP hS hL
  have he := wsx_at (dA := dA) (B := B) (h := h) o1 o2
  have hset : ∀ ee, xcont dA B (h.1, xset h.2 r (wr j).toNat z) r = ee → (wsx dA B h).set (r - 1) (B + r, ee) = wsx dA B (h.1, xset h.2 r (wr j).toNat z) := fun ee he => wsx_set o1 o2 rfl (fun i hi => xcont_cong rfl rfl rfl (xset_ne hi)) he
  have go : ∀ ee, xcont dA B (h.1, xset h.2 r (wr j).toNat z) r = ee → ∀ (H1 : Heap) (locs1 : List Loc), va_P D vwCl ((wsx dA B h).set (r - 1) (B + r, ee)) H1 → va_D (XA B) ((wsx dA B h).set (r - 1) (B + r, ee)) → va_S (XA B) s.heap H1 locs1 → W p l e R s m args below meth c H1 locs1 (gN h.1 - n0) (gW h.1 - w0) Q (F0 m (pc + 1) lsC (st.map (cv B ra))) := by
    intro ee he H1 locs1 hP1 hD1 hS1
    rw [hset ee he] at hP1
    exact W_size (h := (h.1, xset h.2 r (wr j).toNat z)) hs hn0 hP1 hS1 (fun hz1 => kk H1 locs1 lsC hz1 hP1 hS1 hL)
  rcases hcs with ⟨hd, ht, rfl⟩ | ⟨hd, ht, rfl, z0, z1⟩ | ⟨hd, ht, rfl⟩
  · show W p l e R s m args below meth c H locs _ _ Q (F0 m pc lsC (.int (Int32.ofInt z) :: .int (Int32.ofInt j) :: cv B ra (vR r) :: _))
    rw [cv_r (by omega)]
    rw [xcont_arr ht (by omega), xarr_i (Or.inl ht)] at he
    refine va_iast hx hb hK hP (wsx_D dA B h) hS (r - 1) 0 he rfl (xi_in h0 h1) hd (go _ ?_)
    rw [xcont_arr (h := (h.1, xset h.2 r (wr j).toNat z)) ht (by omega), xarr_i (h := (h.1, xset h.2 r (wr j).toNat z)) (Or.inl ht)]
    show Sum.inl (_, _, Sum.inl (fun k => Int32.ofInt (xset h.2 r (wr j).toNat z r k))) = _
    rw [xset_row]; rfl
  · show W p l e R s m args below meth c H locs _ _ Q (F0 m pc lsC (.int (Int32.ofInt z) :: .int (Int32.ofInt j) :: cv B ra (vR r) :: _))
    rw [cv_r (by omega)]
    rw [xcont_arr ht (by omega), xarr_i (Or.inr ht)] at he
    refine va_cast hx hb hK hP (wsx_D dA B h) hS (r - 1) 2 he rfl (xi_in h0 h1) hd (go _ ?_)
    rw [xcont_arr (h := (h.1, xset h.2 r (wr j).toNat z)) ht (by omega), xarr_i (h := (h.1, xset h.2 r (wr j).toNat z)) (Or.inr ht)]
    show Sum.inl (_, _, Sum.inl (fun k => Int32.ofInt (xset h.2 r (wr j).toNat z r k))) = _
    rw [xset_row]
    have e9 : vp_nar .char (Int32.ofInt z) = Int32.ofInt z := by
      rw [vp_nar_char]
      have e8 := xi_i2c z
      rw [Int.emod_eq_of_lt z0 z1, xi_wr] at e8
      exact e8
    rw [e9]; rfl
  · show W p l e R s m args below meth c H locs _ _ Q (F0 m pc lsC (.long (Int64.ofInt z) :: .int (Int32.ofInt j) :: cv B ra (vR r) :: _))
    rw [cv_r (by omega)]
    rw [xcont_arr ht (by omega), xarr_l ht] at he
    refine va_last hx hb hK hP (wsx_D dA B h) hS (r - 1) 1 he rfl (xi_in h0 h1) hd (go _ ?_)
    rw [xcont_arr (h := (h.1, xset h.2 r (wr j).toNat z)) ht (by omega), xarr_l (h := (h.1, xset h.2 r (wr j).toNat z)) ht]
    show Sum.inl (_, _, Sum.inr (Sum.inl (fun k => Int64.ofInt (xset h.2 r (wr j).toNat z r k)))) = _
    rw [xset_rowL]; rfl
end X4
end
section
/-! THE INTERPRETER IS SOUND, 5: new objects, references in arrays, the JDK's methods -/
section X5
variable {p : Program} {l : Launch} {e : Env} {R : Room} {s : State} {m : MethodId} {args : Array Value} {below : List Frame} {meth : Method} {c : Code} {Q : State → Prop} {B : Nat} {ra : Nat → Nat} {dA : Nat → ClassId} {D : va_G} {rom : xRom} {d y n0 w0 : Nat}
theorem x_born {pc z q : Nat} {ee : va_E} {ls : xLs} {st : List xV} {h h' : xH} {H1 : Heap} {locs1 : List Loc} {lsC : Array Slot} (hs : s.heap.size = B + n0 + 1) (hn0 : n0 ≤ gN h.1) (hw0 : w0 ≤ gW h.1) (hN : gN h'.1 = gN h.1 + 1) (hW : gW h'.1 = gW h.1 + z)
    (hc : ∀ i, i ≤ gN h.1 → xcont dA B h' i = xcont dA B h i) (he : xcont dA B h' (gN h.1 + 1) = ee) (hP1 : va_P D vwCl (wsx dA B h ++ [(q, ee)]) H1) (hD1 : va_D (XA B) (wsx dA B h ++ [(q, ee)])) (hS1 : va_S (XA B) s.heap H1 locs1) (hL : xhas B ra lsC (xinfo y).2.2.1 ls)
    (kk : xSt p l e R s m args below meth c Q B ra dA D y n0 w0 (pc, ls, vR (gN h.1 + 1) :: st, h')) : W p l e R s m args below meth c H1 locs1 (gN h.1 - n0 + 1) (gW h.1 - w0 + z) Q (F0 m pc lsC (.ref q :: st.map (cv B ra))) := by
  intro T hT X
  have hX := X.heapSize
  rw [hT] at hX
  have hqk : (wsx dA B h ++ [(q, ee)])[gN h.1]? = some (q, ee) := by
    rw [List.getElem?_append_right (by rw [wsx_len]; omega), wsx_len, Nat.sub_self]; rfl
  have hq1 : q < H1.size := (hP1 _ _ hqk).lt
  have hq2 : B < q := hD1.2 _ _ hqk
  have hq3 : ¬ (q < B + gN h.1 + 1) := by
    intro hlt
    have hk := wsx_at (dA := dA) (B := B) (h := h) (r := q - B) (by omega) (by omega)
    have hk2 : (wsx dA B h ++ [(q, ee)])[q - B - 1]? = some (B + (q - B), xcont dA B h (q - B)) := by
      rw [List.getElem?_append_left (by rw [wsx_len]; omega)]; exact hk
    have := hD1.1 _ _ _ _ hk2 hqk (by show B + (q - B) = q; omega)
    omega
  have hq : q = B + (gN h.1 + 1) := by omega
  subst hq
  rw [wsx_push hN hc he] at hP1
  have k2 := kk H1 locs1 lsC (by show H1.size = B + gN h'.1 + 1; omega) hP1 hS1 hL
  have k2 : W p l e R s m args below meth c H1 locs1 (gN h'.1 - n0) (gW h'.1 - w0) Q (F0 m pc lsC (cv B ra (vR (gN h.1 + 1)) :: st.map (cv B ra))) := k2
  rw [hN, hW, cv_r (by omega), show gN h.1 + 1 - n0 = gN h.1 - n0 + 1 by omega, show gW h.1 + z - w0 = gW h.1 - w0 + z by omega] at k2
  exact k2 T hT X
theorem hnew_cong {h : xH} {t z i : Nat} (hi : i ≤ gN h.1) : xcont dA B (hnew h t z) i = xcont dA B h i := by
  have hne : i ≠ gN h.1 + 1 := by omega
  exact xcont_cong (xrow_ne hne) (xrow_ne hne) (xrow_ne hne) (xrow_ne hne)
theorem hnew_T {h : xH} {t z : Nat} : gT (hnew h t z).1 (gN h.1 + 1) = t := xrow_at
theorem hnew_Z {h : xH} {t z : Nat} : gZ (hnew h t z).1 (gN h.1 + 1) = z := xrow_at
theorem hnew_P {h : xH} {t z : Nat} : gP (hnew h t z).1 (gN h.1 + 1) = fun _ => 0 := xrow_at
theorem hnew_M {h : xH} {t z : Nat} : (hnew h t z).2 (gN h.1 + 1) = fun _ => 0 := xrow_at
set_option maxHeartbeats 4000000 in
theorem x_new {pc len i kd ci b wi : Nat} {ls : xLs} {st : List xV} {h : xH} (hC : XC rom B ra dA D d y p R s m args meth c) (hs : s.heap.size = B + n0 + 1) (hn0 : n0 ≤ gN h.1) (hw0 : w0 ≤ gW h.1) (hcl : xclA) (hsq : xsq (xinfo y).1.cls (.new i, len, kd, ci, b, wi) = true) (hd : decode (xinfo y).2.1 pc = .ok (.new i, 3))
    (hc1 : gN h.1 - n0 + 1 ≤ R.cells) (hc2 : gW h.1 - w0 + xnf ci ≤ R.slots)
    (kk : xSt p l e R s m args below meth c Q B ra dA D y n0 w0 (pc + 3, ls, vR (gN h.1 + 1) :: st, hnew h ci (xnf ci))) : xSt p l e R s m args below meth c Q B ra dA D y n0 w0 (pc, ls, st, h) := by
  obtain ⟨hx, hb, hml, hown, hts, hin, hK, hRO, hB, hfr, hlo, hNW⟩ := hC
  intro H locs lsC hH hP hS hL
  unfold xsq at hsq
  dsimp only at hsq
  split at hsq
  · rename_i C T N hc
    simp only [decide_eq_true_eq] at hsq
    obtain ⟨ty, c1, c2, c3, c4, c5, c6, c7, c8, c9⟩ := hcl ci _ hc
    have c2 : N = xnf ci := c2
    have hee : xcont dA B (hnew h ci (xnf ci)) (gN h.1 + 1) = .inr (ci, (List.range N).map (fun k => defaultValue (ty k))) := by
      rw [xcont_obj hnew_T c3]
      unfold xfs
      rw [hnew_T, hnew_P, hnew_M, c2]
      congr 2
      apply List.map_congr_left
      intro k hk
      have hk : k < N := by rw [c2]; exact List.mem_range.mp hk
      unfold xfv
      rcases c6 k hk with c | c | c
      · rw [if_neg (by omega), c.2.1]; rfl
      · rw [if_neg (by omega), c.2.1]; rfl
      · rw [if_pos c.1]
        rcases c.2.1 with ⟨n, hn⟩ | ⟨n, hn⟩ <;> (rw [hn]; rfl)
    refine va_new (ci := ci) (C := C) (T := T) (N := N) hx hb hts c1 ty c4 hown (xtbl_of hts (List.mem_of_getElem? hsq) rfl) (hts _ c7) (hts _ c8) hK hP (wsx_D dA B h) hS (fun q hq => by show B < q; omega) hc (fs := (List.range N).map (fun k => defaultValue (ty k))) (fun j hj => ?_) hc1 (by rw [c2]; exact hc2) hd (fun q H1 hP1 hD1 hS1 => ?_)
    · unfold vp_V
      rw [List.getD_eq_getElem?_getD, List.getElem?_map, List.getElem?_range hj]; rfl
    · rw [c2]
      exact x_born hs hn0 hw0 rfl rfl (fun i hi => hnew_cong hi) hee hP1 hD1 hS1 hL kk
  · cases hsq
theorem xK_uniq {tys : List (ClassId × FieldType)} {cA : ClassId} {ty : FieldType} {k : Nat} {cB : ClassId} (hK1 : va_K D vwCl (tys ++ [(cA, ty)]) s) (hk : tys[k]? = some (cB, ty)) (hr : va_RA s cB ty) : cA = cB := by
  have h1 := (hK1.2 tys.length (cA, ty) (by rw [List.getElem?_append_right (Nat.le_refl _), Nat.sub_self]; rfl)).2
  cases ty with
  | object C =>
    obtain ⟨_, _, _, _, _, a⟩ := h1
    obtain ⟨_, _, _, _, _, b⟩ := hr
    exact Option.some.inj (a.symm.trans b)
  | _ => exact Option.some.inj (Eq.trans (Eq.symm h1) hr)
set_option maxHeartbeats 4000000 in
theorem x_newa {pc len kd ci b wi : Nat} {t : ArrayType} {z : Int} {ls : xLs} {st : List xV} {h : xH} (hC : XC rom B ra dA D d y p R s m args meth c) (hs : s.heap.size = B + n0 + 1) (hn0 : n0 ≤ gN h.1) (hw0 : w0 ≤ gW h.1) (har : xarA) (hsq : xsq (xinfo y).1.cls (.newarray t, len, kd, ci, b, wi) = true) (hd : decode (xinfo y).2.1 pc = .ok (.newarray t, 2))
    (h0 : 0 ≤ wr z) (h1 : wr z < 60000000) (hc1 : gN h.1 - n0 + 1 ≤ R.cells) (hc2 : gW h.1 - w0 + (wr z).toNat ≤ R.slots)
    (kk : xSt p l e R s m args below meth c Q B ra dA D y n0 w0 (pc + 2, ls, vR (gN h.1 + 1) :: st, hnew h ci (wr z).toNat)) : xSt p l e R s m args below meth c Q B ra dA D y n0 w0 (pc, ls, vI z :: st, h) := by
  obtain ⟨hx, hb, hml, hown, hts, hin, hK, hRO, hB, hfr, hlo, hNW⟩ := hC
  intro H locs lsC hH hP hS hL
  unfold xsq at hsq
  simp only [decide_eq_true_eq] at hsq
  have hng : ¬ Int32.ofInt z < 0 := fun q => by have := (xi_lt0 z).mp q; omega
  have hee : ∀ t', ci = t' → 100 ≤ t' → xcont dA B (hnew h ci (wr z).toNat) (gN h.1 + 1) = .inl (dA t', (wr z).toNat, xarr B (hnew h ci (wr z).toNat) (gN h.1 + 1)) := fun t' e1 e2 => by
    rw [xcont_arr (hnew_T.trans e1) e2, hnew_Z]
  rcases hsq with ⟨rfl, rfl⟩ | ⟨rfl, rfl⟩ | ⟨rfl, rfl⟩
  · refine va_newa (atype := .int) (ty := .int) (a0 := ((wr z).toNat, .inl (fun _ => 0))) hx hb (hts _ har.1) rfl hK hP (wsx_D dA B h) hS (fun q hq => by show B < q; omega) (fun _ => rfl) hng rfl (by show _ * 4 ≤ _; omega) hc1 hc2 hd (fun q cA H1 hK1 hP1 hD1 hS1 => ?_)
    have e9 := xK_uniq (k := 0) hK1 rfl (hK.2 0 _ rfl).2
    refine x_born hs hn0 hw0 rfl rfl (fun i hi => hnew_cong hi) ?_ hP1 hD1 hS1 hL kk
    rw [hee 100 rfl (by omega), xarr_i (Or.inl hnew_T), hnew_M, e9]; rfl
  · refine va_newa (atype := .long) (ty := .long) (a0 := ((wr z).toNat, .inr (.inl (fun _ => 0)))) hx hb (hts _ har.2.1) rfl hK hP (wsx_D dA B h) hS (fun q hq => by show B < q; omega) (fun _ => rfl) hng rfl (by show _ * 8 ≤ _; omega) hc1 hc2 hd (fun q cA H1 hK1 hP1 hD1 hS1 => ?_)
    have e9 := xK_uniq (k := 1) hK1 rfl (hK.2 1 _ rfl).2
    refine x_born hs hn0 hw0 rfl rfl (fun i hi => hnew_cong hi) ?_ hP1 hD1 hS1 hL kk
    rw [hee 101 rfl (by omega), xarr_l hnew_T, hnew_M, e9]; rfl
  · refine va_newa (atype := .char) (ty := .char) (a0 := ((wr z).toNat, .inl (fun _ => 0))) hx hb (hts _ har.2.2.1) rfl hK hP (wsx_D dA B h) hS (fun q hq => by show B < q; omega) (fun _ => rfl) hng rfl (by show _ * 2 ≤ _; omega) hc1 hc2 hd (fun q cA H1 hK1 hP1 hD1 hS1 => ?_)
    have e9 := xK_uniq (k := 2) hK1 rfl (hK.2 2 _ rfl).2
    refine x_born hs hn0 hw0 rfl rfl (fun i hi => hnew_cong hi) ?_ hP1 hD1 hS1 hL kk
    rw [hee 102 rfl (by omega), xarr_i (Or.inr hnew_T), hnew_M, e9]; rfl
set_option maxHeartbeats 4000000 in
theorem x_anew {pc len i kd ci b wi : Nat} {z : Int} {ls : xLs} {st : List xV} {h : xH} (hC : XC rom B ra dA D d y p R s m args meth c) (hs : s.heap.size = B + n0 + 1) (hn0 : n0 ≤ gN h.1) (hw0 : w0 ≤ gW h.1) (har : xarA) (hsq : xsq (xinfo y).1.cls (.anewarray i, len, kd, ci, b, wi) = true) (hd : decode (xinfo y).2.1 pc = .ok (.anewarray i, 3))
    (h0 : 0 ≤ wr z) (h1 : wr z < 60000000) (hc1 : gN h.1 - n0 + 1 ≤ R.cells) (hc2 : gW h.1 - w0 + (wr z).toNat ≤ R.slots)
    (kk : xSt p l e R s m args below meth c Q B ra dA D y n0 w0 (pc + 3, ls, vR (gN h.1 + 1) :: st, hnew h ci (wr z).toNat)) : xSt p l e R s m args below meth c Q B ra dA D y n0 w0 (pc, ls, vI z :: st, h) := by
  obtain ⟨hx, hb, hml, hown, hts, hin, hK, hRO, hB, hfr, hlo, hNW⟩ := hC
  intro H locs lsC hH hP hS hL
  unfold xsq at hsq
  simp only [Bool.or_eq_true, Bool.and_eq_true, decide_eq_true_eq] at hsq
  have hng : ¬ Int32.ofInt z < 0 := fun q => by have := (xi_lt0 z).mp q; omega
  have hee : ∀ t', ci = t' → 100 ≤ t' → xcont dA B (hnew h ci (wr z).toNat) (gN h.1 + 1) = .inl (dA t', (wr z).toNat, xarr B (hnew h ci (wr z).toNat) (gN h.1 + 1)) := fun t' e1 e2 => by
    rw [xcont_arr (hnew_T.trans e1) e2, hnew_Z]
  rcases hsq with ⟨rfl, hw⟩ | ⟨rfl, hw⟩
  · refine va_newq hx hb hown (xtbl_of hts (List.mem_of_getElem? hw) rfl) (hNW _ har.2.2.2.1 rfl) hK hP (wsx_D dA B h) hS (fun q hq => by show B < q; omega) hng rfl (by show (wr z).toNat * 4 ≤ _; omega) hc1 hc2 hd (fun q cA H1 hK1 hP1 hD1 hS1 => ?_)
    have e9 := xK_uniq (k := 3) hK1 rfl (hK.2 3 _ rfl).2
    refine x_born hs hn0 hw0 rfl rfl (fun i hi => hnew_cong hi) ?_ hP1 hD1 hS1 hL kk
    rw [hee 103 rfl (by omega), xarr_q (Or.inl hnew_T), hnew_P, e9]; rfl
  · refine va_newq hx hb hown (xtbl_of hts (List.mem_of_getElem? hw) rfl) (hNW _ har.2.2.2.2 rfl) hK hP (wsx_D dA B h) hS (fun q hq => by show B < q; omega) hng rfl (by show (wr z).toNat * 4 ≤ _; omega) hc1 hc2 hd (fun q cA H1 hK1 hP1 hD1 hS1 => ?_)
    have e9 := xK_uniq (k := 4) hK1 rfl (hK.2 4 _ rfl).2
    refine x_born hs hn0 hw0 rfl rfl (fun i hi => hnew_cong hi) ?_ hP1 hD1 hS1 hL kk
    rw [hee 104 rfl (by omega), xarr_q (Or.inr hnew_T), hnew_P, e9]; rfl
set_option maxHeartbeats 4000000 in
theorem x_aast {pc r v : Nat} {j : Int} {ls : xLs} {st : List xV} {h : xH} (hC : XC rom B ra dA D d y p R s m args meth c) (hs : s.heap.size = B + n0 + 1) (hn0 : n0 ≤ gN h.1) (hcl : xclA)
    (h0 : 0 ≤ wr j) (h1 : wr j < gZ h.1 r) (o1 : 1 ≤ r) (o2 : r ≤ gN h.1) (ho : (gT h.1 r = 103 ∧ xobj h.1 v 7) ∨ (gT h.1 r = 104 ∧ xobj h.1 v 3)) (hd : decode (xinfo y).2.1 pc = .ok (.aastore, 1))
    (kk : xSt p l e R s m args below meth c Q B ra dA D y n0 w0 (pc + 1, ls, st, ((gN h.1, gW h.1, gT h.1, gZ h.1, xset (gP h.1) r (wr j).toNat v), h.2))) : xSt p l e R s m args below meth c Q B ra dA D y n0 w0 (pc, ls, vR v :: vI j :: vR r :: st, h) := by
  obtain ⟨hx, hb, hml, hown, hts, hin, hK, hRO, hB, hfr, hlo, hNW⟩ := hC
  intro H locs lsC hH hP hS hL
  have he := wsx_at (dA := dA) (B := B) (h := h) o1 o2
  generalize hh' : (((gN h.1, gW h.1, gT h.1, gZ h.1, xset (gP h.1) r (wr j).toNat v), h.2) : xH) = h' at kk
  have e1 : gN h'.1 = gN h.1 := by rw [← hh']
  have e2 : gW h'.1 = gW h.1 := by rw [← hh']
  have e3 : gT h'.1 = gT h.1 := by rw [← hh']
  have e4 : gZ h'.1 = gZ h.1 := by rw [← hh']
  have e5 : gP h'.1 = xset (gP h.1) r (wr j).toNat v := by rw [← hh']
  have e6 : h'.2 = h.2 := by rw [← hh']
  have hv0 : v ≠ 0 := by
    rcases ho with ⟨_, o, _⟩ | ⟨_, o, _⟩ <;> omega
  have hup : (fun k => xrefo B (gP h'.1 r k)) = va_up (fun k => xrefo B (gP h.1 r k)) (wr j).toNat (some (B + v)) := by
    funext k
    rw [e5]
    unfold va_up
    by_cases hk : k = (wr j).toNat
    · rw [hk, xset_at, if_pos rfl]; exact if_neg hv0
    · rw [xset_ot hk, if_neg hk]
  have go : ∀ ee, xcont dA B h' r = ee → ∀ (H1 : Heap) (locs1 : List Loc), va_P D vwCl ((wsx dA B h).set (r - 1) (B + r, ee)) H1 → va_D (XA B) ((wsx dA B h).set (r - 1) (B + r, ee)) → va_S (XA B) s.heap H1 locs1 → W p l e R s m args below meth c H1 locs1 (gN h.1 - n0) (gW h.1 - w0) Q (F0 m (pc + 1) lsC (st.map (cv B ra))) := by
    intro ee he H1 locs1 hP1 hD1 hS1
    rw [wsx_set (h' := h') o1 o2 e1 (fun i hi => xcont_cong (by rw [e3]) (by rw [e4]) (by rw [e5, xset_ne hi]) (by rw [e6])) he] at hP1
    have kk := fun hz1 => kk H1 locs1 lsC hz1 hP1 hS1 hL
    dsimp only at kk
    rw [e1, e2] at kk
    refine W_size (h := h') hs (by rw [e1]; exact hn0) hP1 hS1 (fun hz1 => ?_) |> fun q => by rw [e1] at q; exact q
    rw [e1] at hz1 ⊢
    exact kk hz1
  have hc7 : ∃ T N, vwCl[7]? = some ("PedalLayers$Pedal", T, N) := ⟨_, _, rfl⟩
  have hc3 : ∃ T N, vwCl[3]? = some ("PedalLayers$Layer", T, N) := ⟨_, _, rfl⟩
  show W p l e R s m args below meth c H locs _ _ Q (F0 m pc lsC (cv B ra (vR v) :: .int (Int32.ofInt j) :: cv B ra (vR r) :: _))
  rw [cv_r (r := r) (by omega), cv_r hv0]
  rcases ho with ⟨ht, v1, v2, v3⟩ | ⟨ht, v1, v2, v3⟩
  · have hv := wsx_at (dA := dA) (B := B) (h := h) v1 v2
    rw [xcont_obj v3 (by omega)] at hv
    rw [xcont_arr ht (by omega), xarr_q (Or.inl ht)] at he
    obtain ⟨T, N, hc7⟩ := hc7
    refine va_astq hx hb hK hP (wsx_D dA B h) hS (r - 1) 3 (v - 1) 7 he rfl hv hc7 (xi_in h0 h1) hd (go _ ?_)
    rw [xcont_arr (h := h') (t := 103) ((congrFun e3 r).trans ht) (by omega), xarr_q (h := h') (Or.inl ((congrFun e3 r).trans ht)), hup, e4]; rfl
  · have hv := wsx_at (dA := dA) (B := B) (h := h) v1 v2
    rw [xcont_obj v3 (by omega)] at hv
    rw [xcont_arr ht (by omega), xarr_q (Or.inr ht)] at he
    obtain ⟨T, N, hc3⟩ := hc3
    refine va_astq hx hb hK hP (wsx_D dA B h) hS (r - 1) 4 (v - 1) 3 he rfl hv hc3 (xi_in h0 h1) hd (go _ ?_)
    rw [xcont_arr (h := h') (t := 104) ((congrFun e3 r).trans ht) (by omega), xarr_q (h := h') (Or.inr ((congrFun e3 r).trans ht)), hup, e4]; rfl
end X5
end
section
/-! THE INTERPRETER IS SOUND, 6: the JDK's methods -/
def xjdA : Prop := Cond.static Lib.Math.max.name ∈ xtbl ∧ Cond.code Lib.Math.max.name Lib.Math.max.code 2 (some .int) ∈ xtbl ∧ Cond.static Lib.Math.min.name ∈ xtbl ∧ Cond.code Lib.Math.min.name Lib.Math.min.code 2 (some .int) ∈ xtbl ∧ Cond.static Lib.Math.abs.name ∈ xtbl ∧ Cond.code Lib.Math.abs.name Lib.Math.abs.code 1 (some .int) ∈ xtbl ∧ Cond.initialized "java/lang/Math" ∈ xtbl ∧
  Cond.native arraycopyName ∈ xtbl ∧ Cond.static arraycopyName ∈ xtbl ∧ Cond.initialized "java/lang/System" ∈ xtbl ∧ Cond.instanceMethod objectInit ∈ xtbl ∧ Cond.code objectInit ⟨#[0xb1]⟩ 1 none ∈ xtbl
section X6
variable {p : Program} {l : Launch} {e : Env} {R : Room} {s : State} {m : MethodId} {args : Array Value} {below : List Frame} {meth : Method} {c : Code} {Q : State → Prop} {B : Nat} {ra : Nat → Nat} {dA : Nat → ClassId} {D : va_G} {rom : xRom} {d y n0 w0 : Nat}
theorem xhas_size {lsC : Array Slot} {nL : Nat} {ls : xLs} (h : xhas B ra lsC nL ls) : lsC.size = nL := by
  obtain ⟨-, l, h1, -⟩ := h; exact h1.1
theorem xmax_v (x y : Int) : Int32.ofInt (if wr x < wr y then y else x) = if Int32.ofInt x < Int32.ofInt y then Int32.ofInt y else Int32.ofInt x := by
  by_cases h : wr x < wr y
  · rw [if_pos h, if_pos ((xi_lt x y).mpr h)]
  · rw [if_neg h, if_neg (fun q => h ((xi_lt x y).mp q))]
theorem xcpy_v {f g : Nat → Int} {sp dp n : Nat} : (fun k => Int32.ofInt (xcpy f g sp dp n k)) = va_cpy (fun k => Int32.ofInt (f k)) (fun k => Int32.ofInt (g k)) sp dp n := by
  funext k; unfold xcpy va_cpy; split <;> rfl
set_option maxHeartbeats 4000000 in
theorem x_native {pc len a b wi kd : Nat} {ins : ClassFile.Instr} {ls : xLs} {st : List xV} {h : xH} {σ : xF} (hC : XC rom B ra dA D d y p R s m args meth c) (hs : s.heap.size = B + n0 + 1) (hn0 : n0 ≤ gN h.1) (hc1 : gN h.1 - n0 ≤ R.cells) (hc2 : gW h.1 - w0 ≤ R.slots) (hjd : xjdA) (hcl6 : xcls ins = 6) (hsq : xsq (xinfo y).1.cls (ins, len, kd, a, b, wi) = true) (hd : decode (xinfo y).2.1 pc = .ok (ins, 3)) (hkd : ¬ kd ≤ 1) (h11 : ¬ kd = 11)
    (hp : xcall d pc (ins, len, kd, a, b, wi) ls st h = some (.inl σ))
    (kk : xSt p l e R s m args below meth c Q B ra dA D y n0 w0 σ) : xSt p l e R s m args below meth c Q B ra dA D y n0 w0 (pc, ls, st, h) := by
  obtain ⟨hx, hb, hml, hown, hts, hin, hK, hRO, hB, hfr, hlo, hNW⟩ := hC
  obtain ⟨j1, j2, j3, j4, j5, j6, j7, j8, j9, j10, j11, j12⟩ := hjd
  intro H locs lsC hH hP hS hL
  have hsz := xhas_size hL
  unfold xcall at hp
  dsimp only at hp
  rw [if_neg hkd] at hp
  split at hp
  · cases hp
  rename_i hd0
  have hfr1 : 1 ≤ R.frames := by omega
  have hlo1 : 36 ≤ R.locals := by omega
  have hls : c.maxLocals = lsC.size := by rw [hml, hsz]
  have hcats : ∀ r : List xV, ((r.map (cv B ra)).map fun v => v.category).sum = (r.map xcat).sum := cv_cats B ra
  have hk6 : ∀ i, ins = .invokespecial i → kd = 6 ∧ lw_tbl[wi]? = some (Cond.methodLink (xinfo y).1.cls i objectInit) := by
    intro i hi
    subst hi
    unfold xsq at hsq
    dsimp only at hsq
    rw [if_neg hkd] at hsq
    simpa using hsq
  have hk7 : ∀ i, ins = .invokestatic i → (kd = 7 → lw_tbl[wi]? = some (Cond.methodLink (xinfo y).1.cls i Lib.Math.max.name)) ∧ (kd = 8 → lw_tbl[wi]? = some (Cond.methodLink (xinfo y).1.cls i Lib.Math.min.name)) ∧ (kd = 9 → lw_tbl[wi]? = some (Cond.methodLink (xinfo y).1.cls i Lib.Math.abs.name)) ∧ (kd = 10 → lw_tbl[wi]? = some (Cond.methodLink (xinfo y).1.cls i arraycopyName)) ∧ kd ≠ 6 := by
    intro i hi
    subst hi
    unfold xsq at hsq
    dsimp only at hsq
    rw [if_neg hkd] at hsq
    refine ⟨fun q => ?_, fun q => ?_, fun q => ?_, fun q => ?_, fun q => ?_⟩ <;> subst q <;> simpa using hsq
  have hkv : ∀ i, ins = .invokevirtual i → False := by
    intro i hi
    subst hi
    unfold xsq at hsq
    dsimp only at hsq
    rw [if_neg h11] at hsq
    simp [hkd] at hsq
  have hcase : (∃ i, ins = .invokespecial i) ∨ (∃ i, ins = .invokestatic i) := by
    unfold xcls at hcl6
    split at hcl6 <;> first | (cases hcl6; done) | exact Or.inl ⟨_, rfl⟩ | exact Or.inr ⟨_, rfl⟩ | exact (hkv _ rfl).elim
  split at hp
  · rename_i r s'
    split at hp
    · rename_i hr
      cases hp
      rcases hcase with ⟨i, rfl⟩ | ⟨i, rfl⟩
      · show W p l e R s m args below meth c H locs _ _ Q (F0 m pc lsC (cv B ra (vR _) :: _))
        rw [cv_r hr.1]
        refine W.objInit hx hb hown (xtbl_of hts (List.mem_of_getElem? (hk6 i rfl).2) rfl) (hts _ j11) (hts _ j12) rfl hls.symm rfl hd hfr1 (by show 2 * 0 + ((s'.map (cv B ra)).map fun v => v.category).sum + 12 ≤ _; rw [hcats]; omega) ?_
        exact W.eq (g2 := F0 m (pc + 3) lsC (s'.map (cv B ra))) rfl (kk H locs lsC hH hP hS hL)
      · exact absurd rfl (hk7 i rfl).2.2.2.2
    · cases hp
  · rename_i yy xx s'
    split at hp
    · rename_i hr
      cases hp
      rcases hcase with ⟨i, rfl⟩ | ⟨i, rfl⟩
      · have := (hk6 i rfl).1; omega
      · exact va_mmax hx hb hls hown (xtbl_of hts (List.mem_of_getElem? ((hk7 i rfl).1 rfl)) rfl) (hts _ j1) (hts _ j7) (hts _ j2) hfr1 (by rw [hcats]; omega) hc1 hc2 hd (W_top (congrArg Value.int (xmax_v xx yy)) (kk H locs lsC hH hP hS hL))
    · cases hp
  · rename_i yy xx s'
    split at hp
    · rename_i hr
      cases hp
      rcases hcase with ⟨i, rfl⟩ | ⟨i, rfl⟩
      · have := (hk6 i rfl).1; omega
      · exact va_mmin hx hb hls hown (xtbl_of hts (List.mem_of_getElem? ((hk7 i rfl).2.1 rfl)) rfl) (hts _ j3) (hts _ j7) (hts _ j4) hfr1 (by rw [hcats]; omega) hc1 hc2 hd (W_top (congrArg Value.int (by
          by_cases h9 : wr yy < wr xx
          · rw [if_pos h9, if_pos ((xi_lt yy xx).mpr h9)]
          · rw [if_neg h9, if_neg (fun q => h9 ((xi_lt yy xx).mp q))])) (kk H locs lsC hH hP hS hL))
    · cases hp
  · rename_i xx s'
    split at hp
    · rename_i hr
      cases hp
      rcases hcase with ⟨i, rfl⟩ | ⟨i, rfl⟩
      · have := (hk6 i rfl).1; omega
      · exact va_mabs hx hb hls hown (xtbl_of hts (List.mem_of_getElem? ((hk7 i rfl).2.2.1 rfl)) rfl) (hts _ j5) (hts _ j7) (hts _ j6) hfr1 (by rw [hcats]; omega) hc1 hc2 hd (W_top (congrArg Value.int (by
          by_cases h9 : wr xx < 0
          · rw [if_pos h9, if_neg (fun q => by have := (xi_0le xx).mp q; omega), Int32.ofInt_neg, Int32.zero_sub]
          · rw [if_neg h9, if_pos ((xi_0le xx).mpr (by omega))])) (kk H locs lsC hH hP hS hL))
    · cases hp
  · rename_i nn dp aa sp a0 s'
    split at hp
    · rename_i hr
      obtain ⟨⟨u1, u2, u3⟩, ⟨v1, v2, v3⟩, r1, r2, r3, r4, r5, r6⟩ := hr
      cases hp
      rcases hcase with ⟨i, rfl⟩ | ⟨i, rfl⟩
      · have := (hk6 i rfl).1; omega
      · have hea := wsx_at (dA := dA) (B := B) (h := h) u1 u2
        have hea0 := wsx_at (dA := dA) (B := B) (h := h) v1 v2
        rw [xcont_arr u3 (by omega), xarr_i (Or.inl u3)] at hea
        rw [xcont_arr v3 (by omega), xarr_i (Or.inl v3)] at hea0
        show W p l e R s m args below meth c H locs _ _ Q (F0 m pc lsC (.int (Int32.ofInt nn) :: .int (Int32.ofInt dp) :: cv B ra (vR aa) :: .int (Int32.ofInt sp) :: cv B ra (vR a0) :: _))
        rw [cv_r (r := aa) (by omega), cv_r (r := a0) (by omega)]
        have hnf : nativeFrameWords "java/lang/System" "arraycopy" 5 + 11 ≤ 28 := by decide
        have hroom : ((s'.map (cv B ra)).map fun v => v.category).sum + (nativeFrameWords "java/lang/System" "arraycopy" 5 + 11) ≤ R.locals := by rw [hcats]; omega
        refine va_copyi hx hb hls hown (xtbl_of hts (List.mem_of_getElem? ((hk7 i rfl).2.2.2.1 rfl)) rfl) (hts _ j8) (hts _ j9) (hts _ j10) hK hP (wsx_D dA B h) hS (a0 - 1) (aa - 1) 0 0 hea0 hea rfl rfl rfl (fun q => by have := (xi_lt0 sp).mp q; omega) (fun q => by have := (xi_lt0 dp).mp q; omega) (fun q => by have := (xi_lt0 nn).mp q; omega) (by rw [xi_cl, xi_cl]; show (wr sp).toNat + (wr nn).toNat ≤ gZ h.1 a0; omega) (by rw [xi_cl, xi_cl]; show (wr dp).toNat + (wr nn).toNat ≤ gZ h.1 aa; omega) (fun _ _ => rfl) hfr1 hroom hd (fun H1 locs1 hP1 hD1 hS1 => ?_)
        rw [wsx_set (h' := (h.1, xrow h.2 aa (xcpy (h.2 a0) (h.2 aa) (wr sp).toNat (wr dp).toNat (wr nn).toNat))) u1 u2 rfl (fun j hj => xcont_cong rfl rfl rfl (xrow_ne hj)) (by
          rw [xcont_arr (h := (h.1, xrow h.2 aa (xcpy (h.2 a0) (h.2 aa) (wr sp).toNat (wr dp).toNat (wr nn).toNat))) u3 (by omega), xarr_i (h := (h.1, xrow h.2 aa (xcpy (h.2 a0) (h.2 aa) (wr sp).toNat (wr dp).toNat (wr nn).toNat))) (Or.inl u3)]
          show Sum.inl (_, _, Sum.inl (fun k => Int32.ofInt (xrow h.2 aa (xcpy (h.2 a0) (h.2 aa) (wr sp).toNat (wr dp).toNat (wr nn).toNat) aa k))) = _
          rw [xrow_at, xcpy_v]; rfl)] at hP1
        exact W_size (h := (h.1, xrow h.2 aa (xcpy (h.2 a0) (h.2 aa) (wr sp).toNat (wr dp).toNat (wr nn).toNat))) hs hn0 hP1 hS1 (fun hz1 => kk H1 locs1 lsC hz1 hP1 hS1 hL)
    · cases hp
  · cases hp
end X6
end
section
/-! THE INTERPRETER IS SOUND, 7: calls -/
def xPc (rom : xRom) (B : Nat) (ra : Nat → Nat) (dA : Nat → ClassId) (D : va_G) (as : List xV) (h : xH) : Array Value → State → Prop := fun v U => v = (as.map (cv B ra)).toArray ∧ U.heap.size = B + gN h.1 + 1 ∧ va_P D vwCl (wsx dA B h) U.heap ∧ va_K D vwCl (xtys dA) U ∧ xRO B ra rom U U.heap ∧ xNW U
def xQc (B : Nat) (ra : Nat → Nat) (dA : Nat → ClassId) (D : va_G) (v : Option xV) (h' : xH) : Array Value → State → Outcome → State → Prop := fun _ st o t => o = .returned (v.map (cv B ra)) ∧ va_P D vwCl (wsx dA B h') t.heap ∧ va_F (XA B) st t
def xws (y : Nat) : List Cond := Cond.code (xinfo y).1 (xinfo y).2.1 (xinfo y).2.2.1 (xinfo y).2.2.2.1 :: xtbl
def xrm (d cc ss : Nat) : Room := { frames := d, cells := cc, slots := ss, locals := 36 * d }
def xMet (l : Launch) (rom : xRom) (B : Nat) (ra : Nat → Nat) (dA : Nat → ClassId) (D : va_G) (d y : Nat) (as : List xV) (h : xH) (v : Option xV) (h' : xH) : Prop :=
  Met l (xinfo y).1 (xws y) (xrm d (gN h'.1 - gN h.1) (gW h'.1 - gW h.1)) (xPc rom B ra dA D as h) (xQc B ra dA D v h') (gN h'.1 - gN h.1) (gW h'.1 - gW h.1) (XA B)
/-- the words of the two dispatched methods -/
def xdsA : Prop := ∀ (k t y : Nat), (k = 0 ∧ t = 5 ∧ y = 40) ∨ (k = 0 ∧ t = 9 ∧ y = 93) ∨ (k = 1 ∧ t = 5 ∧ y = 42) ∨ (k = 1 ∧ t = 9 ∧ y = 95) →
  Cond.sameMethod (xdy k).cls "PedalLayers$Reading" (xdy k).name (xdy k).desc ∈ lw_tbl ∧ Cond.selects (xinfo y).1.cls (xdy k) (xinfo y).1 ∈ lw_tbl ∧ Cond.declares ⟨"PedalLayers$Reading", (xdy k).name, (xdy k).desc⟩ ∈ lw_tbl ∧ (parseMethodDescriptor (xdy k).desc).map (fun d => d.parameters.length) = some (2 - k) ∧ (xinfo y).2.2.2.2.2.2 = t ∧ (xinfo y).2.2.2.2.2.1 = 1 ∧ y < 221 ∧ (xinfo y).2.2.2.2.1 = 2 - k
section X7
variable {p : Program} {l : Launch} {e : Env} {R : Room} {s : State} {m : MethodId} {args : Array Value} {below : List Frame} {meth : Method} {c : Code} {Q : State → Prop} {B : Nat} {ra : Nat → Nat} {dA : Nat → ClassId} {D : va_G} {rom : xRom} {d y n0 w0 : Nat}
theorem xRO.to {U : State} {H : Heap} {locs : List Loc} (h : xRO B ra rom s s.heap) (hS : va_S (XA B) s.heap H locs) (hv : s.vm.Alike U.vm) : xRO B ra rom U H :=
  ⟨fun k hk => ((h.1 k hk).kept (fun a h1 h2 => hS.2.1 a h1 h2)).moved hv, fun k hk => ((h.2 k hk).kept (fun a h1 h2 => hS.2.1 a h1 h2)).moved hv⟩
theorem xPc_blind {as : List xV} {h : xH} : FrameBlind (xPc rom B ra dA D as h) := by
  intro a U g mk q
  obtain ⟨q0, q1, q2, q3, q4, q5⟩ := q
  exact ⟨q0, q1, q2, va_K.moved (u := U) (U := U.calling g mk a) (Vm.Alike.refl U.vm) q3, ⟨fun k hk => (q4.1 k hk).moved (U := U.calling g mk a) (Vm.Alike.refl U.vm), fun k hk => (q4.2 k hk).moved (U := U.calling g mk a) (Vm.Alike.refl U.vm)⟩, xNW.same (u := U) (U := U.calling g mk a) rfl q5⟩
theorem xPc_at {as : List xV} {h : xH} {H : Heap} {locs : List Loc} (hK : va_K D vwCl (xtys dA) s) (hRO : xRO B ra rom s s.heap) (hNW : xNW s) (hH : H.size = B + gN h.1 + 1) (hP : va_P D vwCl (wsx dA B h) H) (hS : va_S (XA B) s.heap H locs) : ∀ U : State, U.heap = H → s.WarmedH U.vm → xPc rom B ra dA D as h (as.map (cv B ra)).toArray U :=
  fun U hU hW => ⟨rfl, by rw [hU]; exact hH, by rw [hU]; exact hP, va_K.moved hW.alike hK, by rw [hU]; exact hRO.to hS hW.alike, xNW.warm hW hNW⟩
theorem xgoodIn {y : Nat} (hm : Cond.code (xinfo y).1 (xinfo y).2.1 (xinfo y).2.2.1 (xinfo y).2.2.2.1 ∈ lw_tbl) : GoodIn xtbl (xws y) := by
  intro w hw
  rcases List.mem_cons.mp hw with rfl | hw
  · exact ⟨List.mem_filter.mpr ⟨hm, rfl⟩, good_of_word rfl⟩
  · exact ⟨hw, good_of_word (List.mem_filter.mp hw).2⟩
theorem xgood1 {w : Cond} (h1 : w ∈ lw_tbl) (h2 : goodWord w = true) : w ∈ xtbl ∧ ((w.onTables && w.keeps) = true ∨ ∃ ty, w = .arrayClass ty) := ⟨List.mem_filter.mpr ⟨h1, h2⟩, good_of_word h2⟩
theorem x_after {pc mc ms cells slots : Nat} {lsC : Array Slot} {st0 rest : List Value} {H : Heap} {locs : List Loc} {v : Option xV} {h1 : xH} {a : Array Value} (hr : va_Run p l e R s m args below meth c H locs cells slots mc ms (F0 m pc lsC st0) rest (xQc B ra dA D v h1 a) (XA B)) (hS : va_S (XA B) s.heap H locs)
    (kk : ∀ (H1 : Heap) (locs1 : List Loc), va_P D vwCl (wsx dA B h1) H1 → va_S (XA B) s.heap H1 locs1 → W p l e R s m args below meth c H1 locs1 (cells + mc) (slots + ms) Q (F0 m (pc + 3) lsC ((v.map (cv B ra)).toList ++ rest))) : W p l e R s m args below meth c H locs cells slots Q (F0 m pc lsC st0) := by
  intro T hT X
  obtain ⟨vv, st₀, t, T', L, h0, X', hL, e1, e2, ⟨hv, hP1, hz, hk⟩, st⟩ := hr T hT X
  cases hv
  rw [h0] at hz hk
  obtain ⟨t2, a1, b1⟩ := kk T'.heap (locs ++ L) (by rw [e1]; exact hP1)
    ⟨Nat.le_trans hS.1 (by rw [e1]; exact hz), fun q q1 q2 => by rw [e1, hk q (Nat.lt_of_lt_of_le q1 hS.1) q2]; exact hS.2.1 q q1 q2, fun q hq => by
      rcases List.mem_append.mp hq with z | z
      · exact hS.2.2 q z
      · exact hL q z⟩ T' rfl X'
  exact ⟨t2, st t2 a1, b1⟩
theorem xinv_inv {y' k y'' : Nat} {st as rest : List xV} (h : xinv y' k st = some (.inr (.inr (y'', as, rest)))) : y'' = y' ∧ as = (st.take k).reverse ∧ rest = st.drop k ∧ k ≤ st.length ∧ ((st.drop k).map xcat).sum ≤ 8 ∧ (st.take k).all (fun v => xcat v == 1) = true := by
  unfold xinv at h
  split at h
  · rename_i q
    cases h
    exact ⟨rfl, rfl, rfl, q.1, q.2.1, q.2.2⟩
  · cases h
theorem xtake_recv {st : List xV} {n : Nat} {v : xV} (h : st[n]? = some v) : (st.take (n + 1)).reverse = v :: (st.take n).reverse ∧ st = st.take n ++ v :: st.drop (n + 1) := by
  have hl : n < st.length := (List.getElem?_eq_some_iff.mp h).1
  have e := (List.getElem?_eq_some_iff.mp h).2
  constructor
  · rw [List.take_succ, h]; simp
  · conv => lhs; rw [← List.take_append_drop n st]
    rw [List.drop_eq_getElem_cons hl, e]
set_option maxHeartbeats 4000000 in
theorem x_call {pc len a b wi kd y' : Nat} {ins : ClassFile.Instr} {ls : xLs} {st as rest : List xV} {h h1 : xH} {v : Option xV} (hC : XC rom B ra dA D (d + 1) y p R s m args meth c) (hs : s.heap.size = B + n0 + 1) (hn0 : n0 ≤ gN h.1) (hw0 : w0 ≤ gW h.1) (hN : gN h.1 ≤ gN h1.1) (hW : gW h.1 ≤ gW h1.1) (hc1 : gN h1.1 - n0 ≤ R.cells) (hc2 : gW h1.1 - w0 ≤ R.slots)
    (hmA : ∀ y, y < 221 → xmP y) (hcl : xclA) (hcl6 : xcls ins = 6) (hsq : xsq (xinfo y).1.cls (ins, len, kd, a, b, wi) = true) (hd : decode (xinfo y).2.1 pc = .ok (ins, 3)) (hkd : kd ≤ 1)
    (hp : xcall (d + 1) pc (ins, len, kd, a, b, wi) ls st h = some (.inr (.inr (y', as, rest)))) (hM : xMet l rom B ra dA D d y' as h v h1)
    (kk : xSt p l e R s m args below meth c Q B ra dA D y n0 w0 (pc + 3, ls, v.toList ++ rest, h1)) : xSt p l e R s m args below meth c Q B ra dA D y n0 w0 (pc, ls, st, h) := by
  obtain ⟨hx, hb, hml, hown, hts, hin, hK, hRO, hB, hfr, hlo, hNW⟩ := hC
  intro H locs lsC hH hP hS hL
  have hsz := xhas_size hL
  unfold xcall at hp
  dsimp only at hp
  rw [if_pos hkd] at hp
  have hfix : CallFix p m c (xinfo y).2.1 (xinfo y).2.2.1 s args xtbl (xinfo y).1.cls := ⟨hx, hb, hml, hown, hts⟩
  have hfin : ∀ (H1 : Heap) (locs1 : List Loc), va_P D vwCl (wsx dA B h1) H1 → va_S (XA B) s.heap H1 locs1 → W p l e R s m args below meth c H1 locs1 (gN h.1 - n0 + (gN h1.1 - gN h.1)) (gW h.1 - w0 + (gW h1.1 - gW h.1)) Q (F0 m (pc + 3) lsC ((v.map (cv B ra)).toList ++ rest.map (cv B ra))) := by
    intro H1 locs1 hP1 hS1
    rw [show gN h.1 - n0 + (gN h1.1 - gN h.1) = gN h1.1 - n0 by omega, show gW h.1 - w0 + (gW h1.1 - gW h.1) = gW h1.1 - w0 by omega]
    refine W_size hs (by omega) hP1 hS1 (fun hz1 => ?_)
    have k9 := kk H1 locs1 lsC hz1 hP1 hS1 hL
    have e9 : (v.toList ++ rest).map (cv B ra) = (v.map (cv B ra)).toList ++ rest.map (cv B ra) := by
      rw [List.map_append]; cases v <;> rfl
    dsimp only at k9
    rw [e9] at k9
    exact k9
  have hroom : gN h.1 - n0 + (gN h1.1 - gN h.1) ≤ R.cells ∧ gW h.1 - w0 + (gW h1.1 - gW h.1) ≤ R.slots := by omega
  have key : ∀ (i fl : Nat), a < 221 → (xinfo a).2.2.2.2.2.1 = fl → xml (xinfo y).1.cls i (ins, len, kd, a, b, wi) = true → (ins = .invokestatic i ∧ fl = 0) ∨ (ins = .invokevirtual i ∧ fl = 1 ∧ a ≠ 40 ∧ a ≠ 42 ∧ a ≠ 93 ∧ a ≠ 95) ∨ (ins = .invokespecial i ∧ fl = 2) → W p l e R s m args below meth c H locs (gN h.1 - n0) (gW h.1 - w0) Q (F0 m pc lsC (st.map (cv B ra))) := by
    intro i fl ha hfl hxml hins
    obtain ⟨m1, m2, m3, m4, m5, m6, m7, m8, m9, m10, m11, m12⟩ := hmA a ha
    have hGI := xgoodIn m2
    have hl0 : kd = 0 → Cond.methodLink (xinfo y).1.cls i (xinfo a).1 ∈ lw_tbl := fun q => by
      unfold xml at hxml
      dsimp only at hxml
      rw [if_pos q] at hxml
      exact List.mem_of_getElem? (of_decide_eq_true hxml)
    have hl1 : kd ≠ 0 → Cond.methodLinkNest (xinfo y).1.cls i (xinfo a).1 "PedalLayers" ∈ lw_tbl := fun q => by
      unfold xml at hxml
      dsimp only at hxml
      rw [if_neg q] at hxml
      exact List.mem_of_getElem? (of_decide_eq_true hxml)
    have hR2 : (xrm d (gN h1.1 - gN h.1) (gW h1.1 - gW h.1)).frames + 1 ≤ R.frames ∧ 8 + ((xinfo a).2.2.1 + 11) + (xrm d (gN h1.1 - gN h.1) (gW h1.1 - gW h.1)).locals ≤ R.locals := by
      show d + 1 ≤ R.frames ∧ 8 + ((xinfo a).2.2.1 + 11) + 36 * d ≤ R.locals
      omega
    rcases hins with ⟨rfl, rfl⟩ | ⟨rfl, rfl, a1, a2, a3, a4⟩ | ⟨rfl, rfl⟩
    · rw [if_pos hfl] at hp
      obtain ⟨rfl, rfl, rfl, b1, b2, b3⟩ := xinv_inv hp
      have hstk : st.map (cv B ra) = (((st.take (xinfo y').2.2.2.2.1).reverse).map (cv B ra)).reverse ++ (st.drop (xinfo y').2.2.2.2.1).map (cv B ra) := by
        rw [List.map_reverse, List.reverse_reverse, ← List.map_append, List.take_append_drop]
      have hpre : PreS s H (xPc rom B ra dA D ((st.take (xinfo y').2.2.2.2.1).reverse) h) (((st.take (xinfo y').2.2.2.2.1).reverse).map (cv B ra)) := ⟨xPc_blind, xPc_at hK hRO hNW hH hP hS⟩
      have hnn : (((st.take (xinfo y').2.2.2.2.1).reverse).map (cv B ra)).length = (xinfo y').2.2.2.2.1 := by
        rw [List.length_map, List.length_reverse, List.length_take]; omega
      have hww : 2 * (F0 m pc lsC (st.map (cv B ra))).monitorRoom + (((st.drop (xinfo y').2.2.2.2.1).map (cv B ra)).map fun v => v.category).sum ≤ 8 := by
        rw [cv_cats]; show 2 * 0 + _ ≤ 8; omega
      by_cases hk0 : kd = 0
      · refine x_after (va_runS hfix hM (va_cwS (xinfo y').2.2.2.2.1 hts (fun w hw => ?_) rfl rfl rfl m8 hR2) hpre rfl hnn hsz hstk hww hd hroom) hS hfin
        rcases List.mem_append.mp hw with hw | hw
        · rcases List.mem_cons.mp hw with rfl | hw
          · exact xgood1 (hl0 hk0) rfl
          · rcases List.mem_cons.mp hw with rfl | hw
            · exact xgood1 (m4 hfl) rfl
            · rcases List.mem_cons.mp hw with rfl | hw
              · exact xgood1 m3 rfl
              · cases hw
        · exact hGI w hw
      · exact x_after (va_runSN hfix hM ⟨va_cnB (xinfo y').2.2.2.2.1 hts hGI rfl rfl rfl (hNW _ (hl1 hk0) rfl) (xtbl_of hts m3 rfl) m8 hR2, xtbl_of hts (m4 hfl) rfl, trivial⟩ hpre rfl hnn hsz hstk hww hd hroom) hS hfin
    · rw [if_neg (by omega)] at hp
      by_cases hrv : xrecv h.1 (if (xinfo a).2.2.2.2.2.1 = 2 then 99 else (xinfo a).2.2.2.2.2.2) (st[(xinfo a).2.2.2.2.1]?)
      · rw [if_pos hrv] at hp
        obtain ⟨rfl, rfl, rfl, b1, b2, b3⟩ := xinv_inv hp
        rw [if_neg (by omega)] at hrv
        unfold xrecv at hrv
        split at hrv
        · rename_i o r hst
          obtain ⟨o1, o2, o3⟩ := hrv
          obtain ⟨t1, t2⟩ := xtake_recv hst
          have h99 := m11 hfl
          have o3 := o3.resolve_left (by omega)
          obtain ⟨T, N, hcc⟩ := m12 h99
          have he := wsx_at (dA := dA) (B := B) (h := h) o1 o2
          rw [xcont_obj o3 (by omega)] at he
          have hrc := va_recv hK hP hcc he
          have hpre : PreV s H (xinfo y').1.cls (B + r) (xPc rom B ra dA D ((st.take ((xinfo y').2.2.2.2.1 + 1)).reverse) h) (((st.take (xinfo y').2.2.2.2.1).reverse).map (cv B ra)) := by
            refine ⟨xPc_blind, hrc, ?_⟩
            have e9 : Value.ref (B + r) :: ((st.take (xinfo y').2.2.2.2.1).reverse).map (cv B ra) = ((st.take ((xinfo y').2.2.2.2.1 + 1)).reverse).map (cv B ra) := by
              rw [t1, List.map_cons, cv_r (by omega)]
            rw [e9]
            exact xPc_at hK hRO hNW hH hP hS
          have hstk : st.map (cv B ra) = (((st.take (xinfo y').2.2.2.2.1).reverse).map (cv B ra)).reverse ++ .ref (B + r) :: (st.drop ((xinfo y').2.2.2.2.1 + 1)).map (cv B ra) := by
            conv => lhs; rw [t2]
            rw [List.map_append, List.map_cons, cv_r (by omega), List.map_reverse, List.reverse_reverse]
          have hnn : (((st.take (xinfo y').2.2.2.2.1).reverse).map (cv B ra)).length = (xinfo y').2.2.2.2.1 := by
            rw [List.length_map, List.length_reverse, List.length_take]; omega
          have hww : 2 * (F0 m pc lsC (st.map (cv B ra))).monitorRoom + (((st.drop ((xinfo y').2.2.2.2.1 + 1)).map (cv B ra)).map fun v => v.category).sum ≤ 8 := by
            rw [cv_cats]; show 2 * 0 + _ ≤ 8; omega
          by_cases hk0 : kd = 0
          · refine x_after (va_runV hfix hM (cwV (xinfo y').2.2.2.2.1 hts (fun w hw => ?_) rfl rfl rfl ⟨rfl, m8⟩ hR2) hpre rfl hnn hsz hstk hww hd hroom) hS hfin
            rcases List.mem_append.mp hw with hw | hw
            · rcases List.mem_cons.mp hw with rfl | hw
              · exact xgood1 (hl0 hk0) rfl
              · rcases List.mem_cons.mp hw with rfl | hw
                · exact xgood1 (m5 (by omega)) rfl
                · rcases List.mem_cons.mp hw with rfl | hw
                  · exact xgood1 (m6 hfl a1 a2 a3 a4) rfl
                  · rcases List.mem_cons.mp hw with rfl | hw
                    · exact xgood1 m3 rfl
                    · cases hw
            · exact hGI w hw
          · exact x_after (va_runVN hfix hM ⟨va_cnB (xinfo y').2.2.2.2.1 hts hGI rfl rfl rfl (hNW _ (hl1 hk0) rfl) (xtbl_of hts m3 rfl) m8 hR2, xtbl_of hts (m5 (by omega)) rfl, xtbl_of hts (m6 hfl a1 a2 a3 a4) rfl⟩ hpre rfl hnn hsz hstk hww hd hroom) hS hfin
        · exact hrv.elim
      · rw [if_neg hrv] at hp; cases hp
    · rw [if_neg (by omega)] at hp
      by_cases hrv : xrecv h.1 (if (xinfo a).2.2.2.2.2.1 = 2 then 99 else (xinfo a).2.2.2.2.2.2) (st[(xinfo a).2.2.2.2.1]?)
      · rw [if_pos hrv] at hp
        obtain ⟨rfl, rfl, rfl, b1, b2, b3⟩ := xinv_inv hp
        unfold xrecv at hrv
        split at hrv
        · rename_i o r hst
          obtain ⟨o1, o2, -⟩ := hrv
          obtain ⟨t1, t2⟩ := xtake_recv hst
          have e9 : Value.ref (B + r) :: ((st.take (xinfo y').2.2.2.2.1).reverse).map (cv B ra) = ((st.take ((xinfo y').2.2.2.2.1 + 1)).reverse).map (cv B ra) := by
            rw [t1, List.map_cons, cv_r (by omega)]
          have hpre : PreS s H (xPc rom B ra dA D ((st.take ((xinfo y').2.2.2.2.1 + 1)).reverse) h) (Value.ref (B + r) :: ((st.take (xinfo y').2.2.2.2.1).reverse).map (cv B ra)) := by
            refine ⟨xPc_blind, ?_⟩
            rw [e9]
            exact xPc_at hK hRO hNW hH hP hS
          have hstk : st.map (cv B ra) = (((st.take (xinfo y').2.2.2.2.1).reverse).map (cv B ra)).reverse ++ .ref (B + r) :: (st.drop ((xinfo y').2.2.2.2.1 + 1)).map (cv B ra) := by
            conv => lhs; rw [t2]
            rw [List.map_append, List.map_cons, cv_r (by omega), List.map_reverse, List.reverse_reverse]
          have hnn : (((st.take (xinfo y').2.2.2.2.1).reverse).map (cv B ra)).length = (xinfo y').2.2.2.2.1 := by
            rw [List.length_map, List.length_reverse, List.length_take]; omega
          have hww : 2 * (F0 m pc lsC (st.map (cv B ra))).monitorRoom + (((st.drop ((xinfo y').2.2.2.2.1 + 1)).map (cv B ra)).map fun v => v.category).sum ≤ 8 := by
            rw [cv_cats]; show 2 * 0 + _ ≤ 8; omega
          obtain ⟨q1, q2⟩ := m7 hfl
          have hwx : xws y' = Cond.code (xinfo y').1 (xinfo y').2.1 (xinfo y').2.2.1 none :: xtbl := by
            unfold xws; rw [q2]
          by_cases hk0 : kd = 0
          · exact x_after (va_runI hfix hM (cwI (xinfo y').2.2.2.2.1 hts hGI hwx rfl rfl (xtbl_of hts m3 rfl) (xtbl_of hts (hl0 hk0) rfl) (xtbl_of hts (m5 (by omega)) rfl) q1 m8 hR2) hpre rfl hnn hsz hstk hww hd hroom) hS hfin
          · exact x_after (va_runIN hfix hM ⟨va_cnB (xinfo y').2.2.2.2.1 hts hGI hwx rfl rfl (hNW _ (hl1 hk0) rfl) (xtbl_of hts m3 rfl) m8 hR2, q1, xtbl_of hts (m5 (by omega)) rfl⟩ hpre rfl hnn hsz hstk hww hd hroom) hS hfin
        · exact hrv.elim
      · rw [if_neg hrv] at hp; cases hp
  unfold xcls at hcl6
  split at hcl6 <;> first | (cases hcl6; done) | skip
  · rename_i i
    unfold xsq at hsq
    dsimp only at hsq
    rw [if_pos hkd] at hsq
    unfold xtgtOk at hsq
    simp only [Bool.and_eq_true, decide_eq_true_eq] at hsq
    exact key i 2 hsq.1.1 hsq.1.2 hsq.2 (Or.inr (Or.inr ⟨rfl, rfl⟩))
  · rename_i i
    unfold xsq at hsq
    dsimp only at hsq
    rw [if_pos hkd] at hsq
    unfold xtgtOk at hsq
    simp only [Bool.and_eq_true, decide_eq_true_eq] at hsq
    exact key i 0 hsq.1.1 hsq.1.2 hsq.2 (Or.inl ⟨rfl, rfl⟩)
  · rename_i i
    unfold xsq at hsq
    dsimp only at hsq
    rw [if_neg (by omega)] at hsq
    unfold xtgtOk at hsq
    simp only [Bool.and_eq_true, decide_eq_true_eq] at hsq
    exact key i 1 hsq.1.1.1.1.1.2.1 hsq.1.1.1.1.1.2.2 hsq.1.1.1.1.2 (Or.inr (Or.inl ⟨rfl, rfl, hsq.1.1.1.2, hsq.1.1.2, hsq.1.2, hsq.2⟩))
end X7
end
section
/-! THE INTERPRETER IS SOUND, 8: the dispatched calls; the whole -/
section X8
variable {p : Program} {l : Launch} {e : Env} {R : Room} {s : State} {m : MethodId} {args : Array Value} {below : List Frame} {meth : Method} {c : Code} {Q : State → Prop} {B : Nat} {ra : Nat → Nat} {dA : Nat → ClassId} {D : va_G} {rom : xRom} {d y n0 w0 : Nat}
set_option maxHeartbeats 4000000 in
theorem x_disp {pc len a b wi i y' : Nat} {ls : xLs} {st as rest : List xV} {h h1 : xH} {v : Option xV} (hC : XC rom B ra dA D (d + 1) y p R s m args meth c) (hs : s.heap.size = B + n0 + 1) (hn0 : n0 ≤ gN h.1) (hw0 : w0 ≤ gW h.1) (hN : gN h.1 ≤ gN h1.1) (hW : gW h.1 ≤ gW h1.1) (hc1 : gN h1.1 - n0 ≤ R.cells) (hc2 : gW h1.1 - w0 ≤ R.slots)
    (hmA : ∀ y, y < 221 → xmP y) (hds : xdsA) (hsq : xsq (xinfo y).1.cls (.invokevirtual i, len, 11, a, b, wi) = true) (hd : decode (xinfo y).2.1 pc = .ok (.invokevirtual i, 3))
    (hp : xdisp (.invokevirtual i, len, 11, a, b, wi) st h = some (.inr (.inr (y', as, rest)))) (hM : xMet l rom B ra dA D d y' as h v h1)
    (kk : xSt p l e R s m args below meth c Q B ra dA D y n0 w0 (pc + 3, ls, v.toList ++ rest, h1)) : xSt p l e R s m args below meth c Q B ra dA D y n0 w0 (pc, ls, st, h) := by
  obtain ⟨hx, hb, hml, hown, hts, hin, hK, hRO, hB, hfr, hlo, hNW⟩ := hC
  intro H locs lsC hH hP hS hL
  have hsz := xhas_size hL
  have hfix : CallFix p m c (xinfo y).2.1 (xinfo y).2.2.1 s args xtbl (xinfo y).1.cls := ⟨hx, hb, hml, hown, hts⟩
  have hfin : ∀ (H1 : Heap) (locs1 : List Loc), va_P D vwCl (wsx dA B h1) H1 → va_S (XA B) s.heap H1 locs1 → W p l e R s m args below meth c H1 locs1 (gN h.1 - n0 + (gN h1.1 - gN h.1)) (gW h.1 - w0 + (gW h1.1 - gW h.1)) Q (F0 m (pc + 3) lsC ((v.map (cv B ra)).toList ++ rest.map (cv B ra))) := by
    intro H1 locs1 hP1 hS1
    rw [show gN h.1 - n0 + (gN h1.1 - gN h.1) = gN h1.1 - n0 by omega, show gW h.1 - w0 + (gW h1.1 - gW h.1) = gW h1.1 - w0 by omega]
    refine W_size hs (by omega) hP1 hS1 (fun hz1 => ?_)
    have k9 := kk H1 locs1 lsC hz1 hP1 hS1 hL
    have e9 : (v.toList ++ rest).map (cv B ra) = (v.map (cv B ra)).toList ++ rest.map (cv B ra) := by
      rw [List.map_append]; cases v <;> rfl
    dsimp only at k9
    rw [e9] at k9
    exact k9
  have hroom : gN h.1 - n0 + (gN h1.1 - gN h.1) ≤ R.cells ∧ gW h.1 - w0 + (gW h1.1 - gW h.1) ≤ R.slots := by omega
  unfold xsq at hsq
  simp only [if_true, Bool.and_eq_true, decide_eq_true_eq] at hsq
  obtain ⟨ha2, hlk⟩ := hsq
  have key : ∀ (t y9 r : Nat), xobj h.1 r t → st[2 - a]? = some (vR r) → xinv y9 (2 - a + 1) st = some (.inr (.inr (y', as, rest))) → ((a = 0 ∧ t = 5 ∧ y9 = 40) ∨ (a = 0 ∧ t = 9 ∧ y9 = 93) ∨ (a = 1 ∧ t = 5 ∧ y9 = 42) ∨ (a = 1 ∧ t = 9 ∧ y9 = 95)) → W p l e R s m args below meth c H locs (gN h.1 - n0) (gW h.1 - w0) Q (F0 m pc lsC (st.map (cv B ra))) := by
    intro t y9 r ho hst hi hcase
    obtain ⟨g1, g2, g3, g4, g5, g6, g7, -⟩ := hds a t y9 hcase
    obtain ⟨rfl, rfl, rfl, b1, b2, b3⟩ := xinv_inv hi
    obtain ⟨m1, m2, m3, m4, m5, m6, m7, m8, m9, m10, m11, m12⟩ := hmA y' g7
    obtain ⟨o1, o2, o3⟩ := ho
    obtain ⟨t1, t2⟩ := xtake_recv hst
    obtain ⟨T, N, hcc⟩ := m12 (m11 g6)
    rw [g5] at hcc
    have he := wsx_at (dA := dA) (B := B) (h := h) o1 o2
    rw [xcont_obj o3 (by omega)] at he
    have hrc := va_recv hK hP hcc he
    have hpre : PreV s H (xinfo y').1.cls (B + r) (xPc rom B ra dA D ((st.take (2 - a + 1)).reverse) h) (((st.take (2 - a)).reverse).map (cv B ra)) := by
      refine ⟨xPc_blind, hrc, ?_⟩
      have e9 : Value.ref (B + r) :: ((st.take (2 - a)).reverse).map (cv B ra) = ((st.take (2 - a + 1)).reverse).map (cv B ra) := by
        rw [t1, List.map_cons, cv_r (by omega)]
      rw [e9]
      exact xPc_at hK hRO hNW hH hP hS
    have hstk : st.map (cv B ra) = (((st.take (2 - a)).reverse).map (cv B ra)).reverse ++ .ref (B + r) :: (st.drop (2 - a + 1)).map (cv B ra) := by
      conv => lhs; rw [t2]
      rw [List.map_append, List.map_cons, cv_r (by omega), List.map_reverse, List.reverse_reverse]
    have hnn : (((st.take (2 - a)).reverse).map (cv B ra)).length = 2 - a := by
      rw [List.length_map, List.length_reverse, List.length_take]; omega
    have hww : 2 * (F0 m pc lsC (st.map (cv B ra))).monitorRoom + (((st.drop (2 - a + 1)).map (cv B ra)).map fun v => v.category).sum ≤ 8 := by
      rw [cv_cats]; show 2 * 0 + _ ≤ 8; omega
    have hR2 : (xrm d (gN h1.1 - gN h.1) (gW h1.1 - gW h.1)).frames + 1 ≤ R.frames ∧ 8 + ((xinfo y').2.2.1 + 11) + (xrm d (gN h1.1 - gN h.1) (gW h1.1 - gW h.1)).locals ≤ R.locals := by
      show d + 1 ≤ R.frames ∧ 8 + ((xinfo y').2.2.1 + 11) + 36 * d ≤ R.locals
      omega
    refine x_after (va_runU hfix hM (va_cwA (x := xdy a) (owner := "PedalLayers$Reading") (2 - a) hts (fun w hw => ?_) rfl rfl rfl (hNW _ g3 rfl) ⟨by decide, by decide, g4⟩ hR2) hpre rfl hnn hsz hstk hww hd hroom) hS hfin
    rcases List.mem_append.mp hw with hw | hw
    · rcases List.mem_cons.mp hw with rfl | hw
      · exact xgood1 (List.mem_of_getElem? hlk) rfl
      · rcases List.mem_cons.mp hw with rfl | hw
        · exact xgood1 g1 rfl
        · rcases List.mem_cons.mp hw with rfl | hw
          · exact xgood1 g2 rfl
          · rcases List.mem_cons.mp hw with rfl | hw
            · exact xgood1 (m5 (by omega)) rfl
            · rcases List.mem_cons.mp hw with rfl | hw
              · exact xgood1 m3 rfl
              · cases hw
    · exact xgoodIn m2 w hw
  unfold xdisp at hp
  dsimp only at hp
  split at hp
  · split at hp
    · rename_i ho
      exact key 5 40 _ ho rfl hp (Or.inl ⟨rfl, rfl, rfl⟩)
    · split at hp
      · rename_i ho
        exact key 9 93 _ ho rfl hp (Or.inr (Or.inl ⟨rfl, rfl, rfl⟩))
      · cases hp
  · split at hp
    · rename_i ho
      exact key 5 42 _ ho rfl hp (Or.inr (Or.inr (Or.inl ⟨rfl, rfl, rfl⟩)))
    · split at hp
      · rename_i ho
        exact key 9 95 _ ho rfl hp (Or.inr (Or.inr (Or.inr ⟨rfl, rfl, rfl⟩)))
      · cases hp
  · cases hp
/-- all that the tables say -/
def xAll : Prop := xclA ∧ xarA ∧ xjdA ∧ xdsA ∧ (∀ y, y < 222 → xckP y) ∧ ∀ y, y < 221 → xmP y
theorem xcode_ok {y pc : Nat} {q : xQ} (hA : xAll) (h : xcode y pc = some q) : y < 222 ∧ decode (xinfo y).2.1 pc = .ok (q.1, q.2.1) ∧ (xlen q.1 = 0 ∨ xlen q.1 = q.2.1) ∧ xsq (xinfo y).1.cls q = true := by
  have hy : y < 222 := by
    rcases Nat.lt_or_ge y 222 with z | z
    · exact z
    · have hl : xkall.length ≤ y := Nat.le_trans (by decide +kernel) z
      unfold xcode at h
      rw [List.getD_eq_getElem?_getD, List.getD_eq_getElem?_getD, List.getElem?_eq_none hl] at h
      cases h
  have h1 := hA.2.2.2.2.1 y hy pc
  have h : (xkall.getD y []).getD pc none = some q := h
  rw [h] at h1
  unfold xchk at h1
  simp only [Bool.and_eq_true, Bool.or_eq_true, decide_eq_true_eq] at h1
  exact ⟨hy, h1.1.1, h1.1.2, h1.2⟩
end X8
end
section
/-! THE INTERPRETER IS SOUND, 9: one step -/
section X9
variable {p : Program} {l : Launch} {e : Env} {R : Room} {s : State} {m : MethodId} {args : Array Value} {below : List Frame} {meth : Method} {c : Code} {Q : State → Prop} {B : Nat} {ra : Nat → Nat} {dA : Nat → ClassId} {D : va_G} {rom : xRom} {d y n0 w0 : Nat}
theorem xlen_ne {ins : ClassFile.Instr} (h : xcls ins ≠ 1) : xlen ins ≠ 0 := by
  cases ins <;> first | (exact absurd rfl h) | (intro q; cases q)
set_option maxHeartbeats 4000000 in
theorem x_heap {pc len kd a b wi : Nat} {ins : ClassFile.Instr} {ls : xLs} {st : List xV} {h : xH} {σ : xF} (hA : xAll) (hC : XC rom B ra dA D d y p R s m args meth c) (hs : s.heap.size = B + n0 + 1) (hn0 : n0 ≤ gN h.1) (hw0 : w0 ≤ gW h.1) (hM : (xinfo y).2.2.2.2.2.2 < 99 → ∃ T N, vwCl[(xinfo y).2.2.2.2.2.2]? = some ((xinfo y).1.cls, T, N))
    (hd : decode (xinfo y).2.1 pc = .ok (ins, len)) (hl : xlen ins = len) (hsq : xsq (xinfo y).1.cls (ins, len, kd, a, b, wi) = true)
    (hp : xheap rom y pc (ins, len, kd, a, b, wi) ls st h = some (.inl σ)) (hc1 : gN σ.2.2.2.1 - n0 ≤ R.cells) (hc2 : gW σ.2.2.2.1 - w0 ≤ R.slots) :
    xSt p l e R s m args below meth c Q B ra dA D y n0 w0 σ → xSt p l e R s m args below meth c Q B ra dA D y n0 w0 (pc, ls, st, h) := by
  obtain ⟨hcl, har, hjd, hds, hck, hmA⟩ := hA
  intro kk
  have hl := hl.symm
  subst hl
  unfold xheap at hp
  dsimp only at hp
  split at hp
  · split at hp
    · split at hp
      · rename_i ho; cases hp; exact x_get hC hcl hsq hd ho kk
      · cases hp
    · cases hp
  · split at hp
    · split at hp
      · rename_i ho; cases hp; exact x_put hC hs hn0 hcl hsq hd ho.1 ho.2 kk
      · cases hp
    · split at hp
      · rename_i ho; cases hp; exact x_putF hC hs hn0 hcl hM hsq hd ho.1 ho.2 kk
      · cases hp
    · cases hp
  · cases hp; exact x_gets hC hsq hd kk
  · split at hp
    · split at hp
      · rename_i ho; cases hp; exact x_ald hC ho.2.1 ho.2.2 ho.1.1 ho.1.2.1 (Or.inl ⟨hd, ho.1.2.2, rfl⟩) kk
      · cases hp
    · split at hp
      · rename_i ho; cases hp; exact x_ald_rom hC ho.1 ho.2.1 ho.2.2 hd kk
      · cases hp
    · cases hp
  · split at hp
    · split at hp
      · rename_i ho; cases hp; exact x_ald hC ho.2.1 ho.2.2 ho.1.1 ho.1.2.1 (Or.inr (Or.inl ⟨hd, ho.1.2.2, rfl⟩)) kk
      · cases hp
    · cases hp
  · split at hp
    · split at hp
      · rename_i ho; cases hp; exact x_ald hC ho.2.1 ho.2.2 ho.1.1 ho.1.2.1 (Or.inr (Or.inr (Or.inl ⟨hd, ho.1.2.2, rfl⟩))) kk
      · cases hp
    · cases hp
  · split at hp
    · split at hp
      · rename_i ho; cases hp; exact x_ald hC ho.2.2.2.1 ho.2.2.2.2 ho.1 ho.2.1 (Or.inr (Or.inr (Or.inr ⟨hd, ho.2.2.1, rfl⟩))) kk
      · cases hp
    · cases hp
  · split at hp
    · split at hp
      · rename_i ho; cases hp; exact x_ast hC hs hn0 ho.2.1 ho.2.2 ho.1.1 ho.1.2.1 (Or.inl ⟨hd, ho.1.2.2, rfl⟩) kk
      · cases hp
    · cases hp
  · split at hp
    · split at hp
      · rename_i ho; cases hp; exact x_ast hC hs hn0 ho.2.1 ho.2.2.1 ho.1.1 ho.1.2.1 (Or.inr (Or.inl ⟨hd, ho.1.2.2, rfl, ho.2.2.2.1, ho.2.2.2.2⟩)) kk
      · cases hp
    · cases hp
  · split at hp
    · split at hp
      · rename_i ho; cases hp; exact x_ast hC hs hn0 ho.2.1 ho.2.2 ho.1.1 ho.1.2.1 (Or.inr (Or.inr ⟨hd, ho.1.2.2, rfl⟩)) kk
      · cases hp
    · cases hp
  · split at hp
    · split at hp
      · rename_i ho; cases hp; exact x_aast hC hs hn0 hcl ho.2.2.2.1 ho.2.2.2.2 ho.1 ho.2.1 ho.2.2.1 hd kk
      · cases hp
    · cases hp
  · split at hp
    · split at hp
      · rename_i ho; cases hp; exact x_alen hC ho.1 ho.2.1 ho.2.2.1 ho.2.2.2 hd kk
      · cases hp
    · split at hp
      · rename_i ho; cases hp; exact x_alen_rom hC ho hd kk
      · cases hp
    · cases hp
  · cases hp
    have hc1 : gN h.1 + 1 - n0 ≤ R.cells := hc1
    have hc2 : gW h.1 + xnf a - w0 ≤ R.slots := hc2
    exact x_new hC hs hn0 hw0 hcl hsq hd (by omega) (by omega) kk
  · split at hp
    · split at hp
      · rename_i ho; cases hp
        have hc1 : gN h.1 + 1 - n0 ≤ R.cells := hc1
        have hc2 : gW h.1 + (wr _).toNat - w0 ≤ R.slots := hc2
        exact x_newa hC hs hn0 hw0 har hsq hd ho.1 ho.2 (by omega) (by omega) kk
      · cases hp
    · cases hp
  · split at hp
    · split at hp
      · rename_i ho; cases hp
        have hc1 : gN h.1 + 1 - n0 ≤ R.cells := hc1
        have hc2 : gW h.1 + (wr _).toNat - w0 ≤ R.slots := hc2
        exact x_anew hC hs hn0 hw0 har hsq hd ho.1 ho.2 (by omega) (by omega) kk
      · cases hp
    · cases hp
  · cases hp
theorem x_heap_mono {pc len kd a b wi : Nat} {ins : ClassFile.Instr} {ls : xLs} {st : List xV} {h : xH} {σ : xF} (hp : xheap rom y pc (ins, len, kd, a, b, wi) ls st h = some (.inl σ)) : gN h.1 ≤ gN σ.2.2.2.1 ∧ gW h.1 ≤ gW σ.2.2.2.1 := by
  unfold xheap at hp
  dsimp only at hp
  split at hp <;> repeat' split at hp
  all_goals first
    | (cases hp; done)
    | (cases hp; exact ⟨Nat.le_refl _, Nat.le_refl _⟩)
    | (cases hp; exact ⟨Nat.le_succ _, Nat.le_add_right _ _⟩)
theorem x_jmp_same {pc : Nat} {ins : ClassFile.Instr} {ls : xLs} {st : List xV} {h : xH} {σ : xF} (hp : xjmp pc ins ls st h = some (.inl σ)) : σ.2.2.2 = h := by
  unfold xjmp at hp
  split at hp <;> repeat' split at hp
  all_goals first
    | (cases hp; done)
    | (cases hp; rfl)
theorem x_call_same {pc : Nat} {q : xQ} {ls : xLs} {st : List xV} {h : xH} {σ : xF} (hp : xcall d pc q ls st h = some (.inl σ)) : σ.2.2.2.1 = h.1 ∧ ¬ q.2.2.1 ≤ 1 := by
  unfold xcall at hp
  dsimp only at hp
  split at hp
  · unfold xinv at hp
    split at hp
    · split at hp <;> cases hp
    · by_cases hr : xrecv h.1 (if (xinfo q.2.2.2.1).2.2.2.2.2.1 = 2 then 99 else (xinfo q.2.2.2.1).2.2.2.2.2.2) (st[(xinfo q.2.2.2.1).2.2.2.2.1]?)
      · rw [if_pos hr] at hp
        split at hp <;> cases hp
      · rw [if_neg hr] at hp; cases hp
  · rename_i hk
    refine ⟨?_, hk⟩
    split at hp
    · cases hp
    · split at hp <;> repeat' split at hp
      all_goals first
        | (cases hp; done)
        | (cases hp; rfl)
theorem x_disp_same {q : xQ} {st : List xV} {h : xH} {σ : xF} (hp : xdisp q st h = some (.inl σ)) : False := by
  unfold xdisp xinv at hp
  split at hp <;> repeat' split at hp
  all_goals (cases hp)
theorem x_ret_same {ins : ClassFile.Instr} {st : List xV} {σ : xF} (hp : xret y ins st = some (.inl σ)) : False := by
  unfold xret at hp
  split at hp
  · split at hp
    · rename_i z
      by_cases hr : xretOk y z
      · rw [if_pos hr] at hp; cases hp
      · rw [if_neg hr] at hp; cases hp
    · cases hp
  · split at hp
    · split at hp <;> cases hp
    · cases hp
  · split at hp
    · split at hp <;> cases hp
    · cases hp
  · split at hp
    · split at hp <;> cases hp
    · cases hp
  · cases hp
theorem x_mono {pc : Nat} {q : xQ} {ls : xLs} {st : List xV} {h : xH} {σ : xF} (hp : xstep rom d y pc q ls st h = some (.inl σ)) : gN h.1 ≤ gN σ.2.2.2.1 ∧ gW h.1 ≤ gW σ.2.2.2.1 := by
  obtain ⟨ins, len, kd, a, b, wi⟩ := q
  unfold xstep at hp
  dsimp only at hp
  split at hp
  · split at hp
    · cases hp; exact ⟨Nat.le_refl _, Nat.le_refl _⟩
    · cases hp
  · rw [x_jmp_same hp]; exact ⟨Nat.le_refl _, Nat.le_refl _⟩
  · repeat' split at hp
    all_goals first
      | (cases hp; done)
      | (cases hp; exact ⟨Nat.le_refl _, Nat.le_refl _⟩)
  · repeat' split at hp
    all_goals first
      | (cases hp; done)
      | (cases hp; exact ⟨Nat.le_refl _, Nat.le_refl _⟩)
  · repeat' split at hp
    all_goals first
      | (cases hp; done)
      | (cases hp; exact ⟨Nat.le_refl _, Nat.le_refl _⟩)
  · exact x_heap_mono hp
  · split at hp
    · exact (x_disp_same hp).elim
    · rw [(x_call_same hp).1]; exact ⟨Nat.le_refl _, Nat.le_refl _⟩
  · exact (x_ret_same hp).elim
set_option maxHeartbeats 4000000 in
theorem x_step {pc : Nat} {q : xQ} {ls : xLs} {st : List xV} {h : xH} {σ : xF} (hA : xAll) (hC : XC rom B ra dA D d y p R s m args meth c) (hs : s.heap.size = B + n0 + 1) (hn0 : n0 ≤ gN h.1) (hw0 : w0 ≤ gW h.1) (hM : (xinfo y).2.2.2.2.2.2 < 99 → ∃ T N, vwCl[(xinfo y).2.2.2.2.2.2]? = some ((xinfo y).1.cls, T, N))
    (hq : xcode y pc = some q) (hp : xstep rom d y pc q ls st h = some (.inl σ)) (hc1 : gN σ.2.2.2.1 - n0 ≤ R.cells) (hc2 : gW σ.2.2.2.1 - w0 ≤ R.slots) (kk : xSt p l e R s m args below meth c Q B ra dA D y n0 w0 σ) : xSt p l e R s m args below meth c Q B ra dA D y n0 w0 (pc, ls, st, h) := by
  obtain ⟨hy, hd, hl, hsq⟩ := xcode_ok hA hq
  have hmono := x_mono hp
  obtain ⟨ins, len, kd, a, b, wi⟩ := q
  dsimp only at hd hl
  unfold xstep at hp
  dsimp only at hp
  split at hp
  · rename_i hcl
    have hl := hl.resolve_left (xlen_ne (by omega))
    split at hp
    · rename_i st' hst
      cases hp
      refine x_pure hC hd hl (fun i hi => ?_) ⟨fun n hi => ?_, fun n hi => ?_⟩ hst kk
      · subst hi
        unfold xsq at hsq
        simp only [decide_eq_true_eq] at hsq
        exact xtbl_of hC.2.2.2.2.1 (List.mem_of_getElem? hsq) rfl
      · subst hi
        unfold xsq at hsq
        exact of_decide_eq_true hsq
      · subst hi
        unfold xsq at hsq
        exact of_decide_eq_true hsq
    · cases hp
  · exact x_jmp hC hd hl hp kk
  · rename_i hcl
    have hl := hl.resolve_left (xlen_ne (by omega))
    split at hp
    · rename_i k t hk
      split at hp
      · rename_i v hv
        split at hp
        · rename_i ht
          cases hp
          exact x_load hC hd hl hk hv ht kk
        · cases hp
      · cases hp
    · cases hp
  · rename_i hcl
    have hl := hl.resolve_left (xlen_ne (by omega))
    split at hp
    · rename_i k t v r hk
      split at hp
      · rename_i ht
        cases hp
        exact x_store hC hd hl hk ht.1 ht.2 kk
      · cases hp
    · cases hp
  · rename_i hcl
    have hl := hl.resolve_left (xlen_ne (by omega))
    split at hp
    · split at hp
      · rename_i z hv
        cases hp
        exact x_iinc hC hd hl hv kk
      · cases hp
    · cases hp
  · rename_i hcl
    have hl := hl.resolve_left (xlen_ne (by omega))
    exact x_heap hA hC hs hn0 hw0 hM hd hl hsq hp hc1 hc2 kk
  · rename_i hcl
    have hl := hl.resolve_left (xlen_ne (by omega))
    split at hp
    · exact (x_disp_same hp).elim
    · rename_i h11
      obtain ⟨e1, e2⟩ := x_call_same hp
      have h3 : len = 3 := by
        rw [← hl]
        unfold xcls at hcl
        split at hcl <;> first | (cases hcl; done) | rfl
      subst h3
      rw [e1] at hc1 hc2
      exact x_native hC hs hn0 hc1 hc2 hA.2.2.1 hcl hsq hd e2 h11 hp kk
  · exact (x_ret_same hp).elim
end X9
end
section
/-! THE INTERPRETER IS SOUND, 10: whole runs -/
theorem xargs_mem {B : Nat} {ra : Nat → Nat} : ∀ (as : List xV), (as.all (fun v => xcat v == 1)) = true → ∀ (i k : Nat) (v : xV), as[k]? = some v → (i + k, cv B ra v) ∈ lv_args i (as.map (cv B ra))
  | [], _, _, _, _, h => by simp at h
  | a :: as, hc, i, k, v, h => by
    simp only [List.all_cons, Bool.and_eq_true, beq_iff_eq] at hc
    have e : lv_args i ((a :: as).map (cv B ra)) = (i, cv B ra a) :: lv_args (i + 1) (as.map (cv B ra)) := by
      show (i, cv B ra a) :: lv_args (if (cv B ra a).category = 2 then i + 2 else i + 1) _ = _
      rw [cv_cat, if_neg (by omega)]
    rw [e]
    cases k with
    | zero =>
      simp only [List.getElem?_cons_zero, Option.some.injEq] at h
      subst h
      exact List.mem_cons_self
    | succ k =>
      rw [List.getElem?_cons_succ] at h
      have := xargs_mem (B := B) (ra := ra) as hc.2 (i + 1) k v h
      rw [show i + (k + 1) = i + 1 + k by omega]
      exact List.mem_cons_of_mem _ this
theorem xsl_len {B : Nat} {ra : Nat → Nat} : ∀ (as : List xV), (as.all (fun v => xcat v == 1)) = true → (lg_sl (as.map (cv B ra))).length = as.length
  | [], _ => rfl
  | a :: as, hc => by
    simp only [List.all_cons, Bool.and_eq_true, beq_iff_eq] at hc
    have h1 := xsl_len (B := B) (ra := ra) as hc.2
    have h2 : ¬ (cv B ra a).category = 2 := by rw [cv_cat]; omega
    simp only [lg_sl, List.map_cons, List.flatMap_cons, List.length_append, List.length_cons] at h1 ⊢
    rw [h1]
    simp [h2]
    try omega
theorem xhas_entry {B : Nat} {ra : Nat → Nat} {y : Nat} {as : List xV} (hc : (as.all (fun v => xcat v == 1)) = true) (hl : as.length ≤ (xinfo y).2.2.1) :
    xhas B ra ((lg_sl (as.map (cv B ra)) ++ List.replicate ((xinfo y).2.2.1 - (lg_sl (as.map (cv B ra))).length) Slot.unset).toArray) (xinfo y).2.2.1 (xentry y as) := by
  refine ⟨?_, _, lv_entry (as.map (cv B ra)) (by rw [xsl_len as hc]; exact hl), fun k v hk => ?_⟩
  · unfold xentry; rw [List.length_append, List.length_map, List.length_replicate]; omega
  · unfold xentry at hk
    rw [List.getD_eq_getElem?_getD] at hk
    have h0 := xargs_mem (B := B) (ra := ra) as hc 0 k v
    rw [Nat.zero_add] at h0
    refine h0 ?_
    by_cases hlt : k < as.length
    · rw [List.getElem?_append_left (by rw [List.length_map]; exact hlt), List.getElem?_map] at hk
      cases ha : as[k]? with
      | none => rw [ha] at hk; cases hk
      | some w => rw [ha] at hk; exact congrArg some (Option.some.inj hk)
    · rw [List.getElem?_append_right (by rw [List.length_map]; omega), List.getElem?_replicate] at hk
      split at hk <;> cases hk
theorem x_run_mono {rom : xRom} : ∀ (f d y : Nat) (σ : xF) (v : Option xV) (h' : xH), xrun rom f d y σ = some (v, h') → gN σ.2.2.2.1 ≤ gN h'.1 ∧ gW σ.2.2.2.1 ≤ gW h'.1
  | 0, _, _, _, _, _, h => by cases h
  | f + 1, d, y, (pc, ls, st, h), v, h', hr => by
    unfold xrun at hr
    split at hr
    · cases hr
    · rename_i q hq
      split at hr
      · cases hr
      · rename_i σ hs
        have h1 := x_mono hs
        have h2 := x_run_mono f d y σ v h' hr
        exact ⟨Nat.le_trans h1.1 h2.1, Nat.le_trans h1.2 h2.2⟩
      · cases hr; exact ⟨Nat.le_refl _, Nat.le_refl _⟩
      · rename_i y' as rest hs
        split at hr
        · cases hr
        · rename_i d'
          split at hr
          · cases hr
          · rename_i v1 h1 hc
            have a1 := x_run_mono f d' y' _ v1 h1 hc
            have a2 := x_run_mono f (d' + 1) y _ v h' hr
            exact ⟨Nat.le_trans a1.1 a2.1, Nat.le_trans a1.2 a2.2⟩
theorem x_ret_inv {rom : xRom} {d y pc : Nat} {q : xQ} {ls : xLs} {st : List xV} {h : xH} {v : Option xV} (hp : xstep rom d y pc q ls st h = some (.inr (.inl v))) : xret y q.1 st = some (.inr (.inl v)) := by
  obtain ⟨ins, len, kd, a, b, wi⟩ := q
  unfold xstep at hp
  dsimp only at hp
  split at hp
  · split at hp <;> cases hp
  · unfold xjmp at hp
    split at hp <;> repeat' split at hp
    all_goals (cases hp)
  · repeat' split at hp
    all_goals (cases hp)
  · repeat' split at hp
    all_goals (cases hp)
  · repeat' split at hp
    all_goals (cases hp)
  · unfold xheap at hp
    dsimp only at hp
    split at hp <;> repeat' split at hp
    all_goals (cases hp)
  · split at hp
    · unfold xdisp xinv at hp
      split at hp <;> repeat' split at hp
      all_goals (cases hp)
    · unfold xcall at hp
      dsimp only at hp
      split at hp
      · unfold xinv at hp
        split at hp
        · split at hp <;> cases hp
        · by_cases hr : xrecv h.1 (if (xinfo a).2.2.2.2.2.1 = 2 then 99 else (xinfo a).2.2.2.2.2.2) (st[(xinfo a).2.2.2.2.1]?)
          · rw [if_pos hr] at hp
            split at hp <;> cases hp
          · rw [if_neg hr] at hp; cases hp
      · split at hp
        · cases hp
        · split at hp <;> repeat' split at hp
          all_goals (cases hp)
  · exact hp
theorem xcall_inv {d pc y' : Nat} {q : xQ} {ls : xLs} {st as rest : List xV} {h : xH} (hp : xcall d pc q ls st h = some (.inr (.inr (y', as, rest)))) : q.2.2.1 ≤ 1 ∧ y' = q.2.2.2.1 ∧ (as.all (fun v => xcat v == 1)) = true ∧ as.length = (xinfo y').2.2.2.2.1 + (if (xinfo y').2.2.2.2.2.1 = 0 then 0 else 1) := by
  unfold xcall at hp
  dsimp only at hp
  split at hp
  · rename_i hk
    refine ⟨hk, ?_⟩
    split at hp
    · rename_i h0
      obtain ⟨rfl, rfl, rfl, b1, b2, b3⟩ := xinv_inv hp
      refine ⟨rfl, by rw [List.all_reverse]; exact b3, ?_⟩
      rw [if_pos h0, List.length_reverse, List.length_take]; omega
    · rename_i h0
      by_cases hr : xrecv h.1 (if (xinfo q.2.2.2.1).2.2.2.2.2.1 = 2 then 99 else (xinfo q.2.2.2.1).2.2.2.2.2.2) (st[(xinfo q.2.2.2.1).2.2.2.2.1]?)
      · rw [if_pos hr] at hp
        obtain ⟨rfl, rfl, rfl, b1, b2, b3⟩ := xinv_inv hp
        refine ⟨rfl, by rw [List.all_reverse]; exact b3, ?_⟩
        rw [if_neg h0, List.length_reverse, List.length_take]; omega
      · rw [if_neg hr] at hp; cases hp
  · split at hp
    · cases hp
    · split at hp <;> repeat' split at hp
      all_goals (cases hp)
theorem xdisp_inv {y' : Nat} {q : xQ} {st as rest : List xV} {h : xH} (hds : xdsA) (hp : xdisp q st h = some (.inr (.inr (y', as, rest)))) : y' < 221 ∧ (as.all (fun v => xcat v == 1)) = true ∧ as.length = (xinfo y').2.2.2.2.1 + (if (xinfo y').2.2.2.2.2.1 = 0 then 0 else 1) := by
  have key : ∀ (k t y9 : Nat), ((k = 0 ∧ t = 5 ∧ y9 = 40) ∨ (k = 0 ∧ t = 9 ∧ y9 = 93) ∨ (k = 1 ∧ t = 5 ∧ y9 = 42) ∨ (k = 1 ∧ t = 9 ∧ y9 = 95)) → k ≤ 1 → xinv y9 (2 - k + 1) st = some (.inr (.inr (y', as, rest))) → y' < 221 ∧ (as.all (fun v => xcat v == 1)) = true ∧ as.length = (xinfo y').2.2.2.2.1 + (if (xinfo y').2.2.2.2.2.1 = 0 then 0 else 1) := by
    intro k t y9 hc hk hi
    obtain ⟨g1, g2, g3, g4, g5, g6, g7, g8⟩ := hds k t y9 hc
    obtain ⟨rfl, rfl, rfl, b1, b2, b3⟩ := xinv_inv hi
    refine ⟨g7, by rw [List.all_reverse]; exact b3, ?_⟩
    rw [if_neg (by omega), List.length_reverse, List.length_take]; omega
  unfold xdisp at hp
  split at hp
  · split at hp
    · exact key 0 5 40 (Or.inl ⟨rfl, rfl, rfl⟩) (by omega) hp
    · split at hp
      · exact key 0 9 93 (Or.inr (Or.inl ⟨rfl, rfl, rfl⟩)) (by omega) hp
      · cases hp
  · split at hp
    · exact key 1 5 42 (Or.inr (Or.inr (Or.inl ⟨rfl, rfl, rfl⟩))) (by omega) hp
    · split at hp
      · exact key 1 9 95 (Or.inr (Or.inr (Or.inr ⟨rfl, rfl, rfl⟩))) (by omega) hp
      · cases hp
  · cases hp
/-- a call's target is a method of the table, and not the law -/
theorem xtgt_lt {y a b wi kd len : Nat} {ins : ClassFile.Instr} (hcl : xcls ins = 6) (hk : kd ≤ 1) (hsq : xsq (xinfo y).1.cls (ins, len, kd, a, b, wi) = true) : a < 221 := by
  unfold xcls at hcl
  split at hcl <;> first | (cases hcl; done) | skip
  · unfold xsq at hsq
    dsimp only at hsq
    rw [if_pos hk] at hsq
    unfold xtgtOk at hsq
    simp only [Bool.and_eq_true, decide_eq_true_eq] at hsq
    exact hsq.1.1
  · unfold xsq at hsq
    dsimp only at hsq
    rw [if_pos hk] at hsq
    unfold xtgtOk at hsq
    simp only [Bool.and_eq_true, decide_eq_true_eq] at hsq
    exact hsq.1.1
  · unfold xsq at hsq
    dsimp only at hsq
    rw [if_neg (by omega)] at hsq
    unfold xtgtOk at hsq
    simp only [Bool.and_eq_true, decide_eq_true_eq] at hsq
    exact hsq.1.1.1.1.1.2.1
section X10
variable {B : Nat} {ra : Nat → Nat} {dA : Nat → ClassId} {D : va_G} {rom : xRom}
def xHR (p : Program) (l : Launch) (e : Env) (R : Room) (s : State) (m : MethodId) (args : Array Value) (below : List Frame) (meth : Method) (c : Code) (Q : State → Prop) (B : Nat) (ra : Nat → Nat) (dA : Nat → ClassId) (D : va_G) (y n0 w0 : Nat) (v : Option xV) (h' : xH) : Prop :=
  ∀ (pc : Nat) (ins : ClassFile.Instr) (st : List xV), decode (xinfo y).2.1 pc = .ok (ins, 1) → xret y ins st = some (.inr (.inl v)) → ∀ (H : Heap) (locs : List Loc) (lsC : Array Slot), va_P D vwCl (wsx dA B h') H → va_S (XA B) s.heap H locs →
    W p l e R s m args below meth c H locs (gN h'.1 - n0) (gW h'.1 - w0) Q (F0 m pc lsC (st.map (cv B ra)))
theorem x_retMQ {p : Program} {l : Launch} {e : Env} {R : Room} {s : State} {m : MethodId} {args : Array Value} {below : List Frame} {meth : Method} {c : Code} {y n0 w0 : Nat} {v : Option xV} {h' : xH} (hx : p.tables.exec = Jvm.exec) (hb : c.code = (xinfo y).2.1) (hr : meth.sig.returnType = (xinfo y).2.2.2.1) (hlocks : meth.locks = false) :
    xHR p l e R s m args below meth c (MQ below (xQc B ra dA D v h') args s (gN h'.1 - n0) (gW h'.1 - w0) (XA B)) B ra dA D y n0 w0 v h' := by
  intro pc ins st hd hret H locs lsC hP hS
  have hq : ∀ (t : State), t.heap = H → ∀ o : Option Value, o = v.map (cv B ra) → xQc B ra dA D v h' args s (.returned o) t := fun t ht o ho => ⟨by rw [ho], by rw [ht]; exact hP, hS.F ht⟩
  unfold xret at hret
  split at hret
  · split at hret
    · rename_i z
      by_cases hz : xretOk y z
      · rw [if_pos hz] at hret
        cases hret
        unfold xretOk at hz
        split at hz
        · rename_i hty
          exact W.zret (ty := .int) hx hb (hr.trans hty) rfl (fun t ht _ => hq t ht _ rfl) hS.2.2 hd hlocks
        · rename_i hty
          refine W.zret (ty := .boolean) hx hb (hr.trans hty) ?_ (fun t ht _ => hq t ht _ rfl) hS.2.2 hd hlocks
          rcases hz with z0 | z0
          · rw [show Int32.ofInt z = 0 from (xi_eq0 z).mpr z0]; rfl
          · rw [show Int32.ofInt z = 1 from Int32.toInt_inj.mp z0]; rfl
        · rename_i hty
          refine W.zret (ty := .char) hx hb (hr.trans hty) ?_ (fun t ht _ => hq t ht _ rfl) hS.2.2 hd hlocks
          have e8 := xi_i2c z
          rw [Int.emod_eq_of_lt hz.1 hz.2, xi_wr] at e8
          have e7 := pk_nc (Int32.ofInt z)
          rw [e8] at e7
          exact e7
        · exact hz.elim
      · rw [if_neg hz] at hret; cases hret
    · cases hret
  · split at hret
    · rename_i r
      split at hret
      · rename_i nn hty
        cases hret
        refine W.aret (v := cv B ra (vR r)) hx hb (hr.trans hty) (Or.inl ⟨_, rfl⟩) ?_ (fun t ht _ => hq t ht _ rfl) hS.2.2 hd hlocks
        by_cases h0 : r = 0
        · subst h0; exact Or.inl rfl
        · exact Or.inr ⟨_, cv_r h0⟩
      · cases hret
    · cases hret
  · split at hret
    · split at hret
      · rename_i hty
        cases hret
        exact W.dret hx hb (hr.trans hty) (fun t ht _ => hq t ht _ rfl) hS.2.2 hd hlocks
      · cases hret
    · cases hret
  · split at hret
    · split at hret
      · rename_i hty
        cases hret
        exact W.vret hx hb (hr.trans hty) (fun t ht _ => hq t ht _ rfl) hS.2.2 hd hlocks
      · cases hret
    · cases hret
  · cases hret
def xSound (l : Launch) (rom : xRom) (B : Nat) (ra : Nat → Nat) (dA : Nat → ClassId) (D : va_G) (f : Nat) : Prop := ∀ (d y : Nat) (σ : xF) (v : Option xV) (h' : xH), xrun rom f d y σ = some (v, h') →
  ∀ (p : Program) (e : Env) (R : Room) (s : State) (m : MethodId) (args : Array Value) (below : List Frame) (meth : Method) (c : Code) (Q : State → Prop) (n0 w0 : Nat), XC rom B ra dA D d y p R s m args meth c → s.heap.size = B + n0 + 1 → n0 ≤ gN σ.2.2.2.1 → w0 ≤ gW σ.2.2.2.1 → gN h'.1 - n0 ≤ R.cells → gW h'.1 - w0 ≤ R.slots →
    ((xinfo y).2.2.2.2.2.2 < 99 → ∃ T N, vwCl[(xinfo y).2.2.2.2.2.2]? = some ((xinfo y).1.cls, T, N)) → xHR p l e R s m args below meth c Q B ra dA D y n0 w0 v h' → xSt p l e R s m args below meth c Q B ra dA D y n0 w0 σ
theorem x_met {l : Launch} {f d y : Nat} {as : List xV} {h h1 : xH} {v : Option xV} (hA : xAll) (ih : xSound l rom B ra dA D f) (hy : y < 221) (hc : (as.all (fun v => xcat v == 1)) = true) (hn : as.length ≤ (xinfo y).2.2.1) (hr : xrun rom f d y (0, xentry y as, [], h) = some (v, h1)) : xMet l rom B ra dA D d y as h v h1 := by
  obtain ⟨m1, m2, m3, m4, m5, m6, m7, m8, m9, m10, m11, m12⟩ := hA.2.2.2.2.2 y hy
  refine Met.ofW (cc := (xinfo y).2.1) (maxL := (xinfo y).2.2.1) (ret := (xinfo y).2.2.2.1) m1 rfl ?_
  intro p e s m args below meth c s₁ B0 hml hv
  obtain ⟨rfl, hsz, hP, hK, hRO, hNW⟩ := hv
  have hts := atoms_spec (ws := xws y) B0.pre
  have hown : s.vm.findClass (xinfo y).1.cls = some m.cls := findClass_of_methodNamed B0.named
  have hx := B0.exec
  have hb := B0.bytes
  have hret := B0.returns
  have hlocks := B0.notSynchronized
  have hC : XC rom B ra dA D d y p (headSpec (xws y) (xrm d (gN h1.1 - gN h.1) (gW h1.1 - gW h.1))).room s m (as.map (cv B ra)).toArray meth c := by
    refine ⟨hx, hb, hml, hown, fun w hw => hts w (List.mem_cons_of_mem _ hw), fun hf => ?_, hK, hRO, by omega, Nat.le_refl _, Nat.le_refl _, hNW⟩
    have := (name_of_methodNamed B0.named B0.method).1
    rw [this]; exact (m7 hf).1
  have k9 := ih d y _ v h1 hr p e _ s m _ below meth c (MQ below (xQc B ra dA D v h1) (as.map (cv B ra)).toArray s (gN h1.1 - gN h.1) (gW h1.1 - gW h.1) (XA B)) (gN h.1) (gW h.1) hC hsz (Nat.le_refl _) (Nat.le_refl _) (Nat.le_refl _) (Nat.le_refl _) m12 (x_retMQ hx hb hret hlocks)
  have k8 := k9 s.heap [] _ hsz hP va_S.rf (xhas_entry hc hn)
  dsimp only at k8
  rw [Nat.sub_self, Nat.sub_self] at k8
  rw [lg_entry_eq]
  exact k8
theorem x_sound {l : Launch} (hA : xAll) : ∀ f, xSound l rom B ra dA D f := by
  intro f
  induction f with
  | zero => intro d y σ v h' hr; cases hr
  | succ f ih =>
    intro d y σ v h' hr p e R s m args below meth c Q n0 w0 hC hs hn0 hw0 hc1 hc2 hM hHR
    obtain ⟨pc, ls, st, h⟩ := σ
    unfold xrun at hr
    split at hr
    · cases hr
    · rename_i q hq
      obtain ⟨hy, hd, hl, hsq⟩ := xcode_ok hA hq
      split at hr
      · cases hr
      · rename_i σ hst
        have h1 := x_mono hst
        have h2 := x_run_mono f d y σ v h' hr
        refine x_step hA hC hs hn0 hw0 hM hq hst (by omega) (by omega) ?_
        exact ih d y σ v h' hr p e R s m args below meth c Q n0 w0 hC hs (Nat.le_trans hn0 h1.1) (Nat.le_trans hw0 h1.2) hc1 hc2 hM hHR
      · rename_i v1 hst
        cases hr
        have hre := x_ret_inv hst
        intro H locs lsC hH hP hS hL
        obtain ⟨ins, len, kd, a, b, wi⟩ := q
        have hne : xlen ins = 1 := by
          unfold xret at hre
          dsimp only at hre
          split at hre <;> first | rfl | (cases hre; done)
        have hl : xlen ins = 0 ∨ xlen ins = len := hl
        have h1 : len = 1 := by omega
        subst h1
        exact hHR pc ins st hd hre H locs lsC hP hS
      · rename_i y' as rest hst
        split at hr
        · cases hr
        · rename_i d'
          split at hr
          · cases hr
          · rename_i v1 h1 hcr
            have a1 := x_run_mono f d' y' _ v1 h1 hcr
            have a2 := x_run_mono f (d' + 1) y _ v h' hr
            have a1 : gN h.1 ≤ gN h1.1 ∧ gW h.1 ≤ gW h1.1 := a1
            have a2 : gN h1.1 ≤ gN h'.1 ∧ gW h1.1 ≤ gW h'.1 := a2
            have hn0 : n0 ≤ gN h.1 := hn0
            have hw0 : w0 ≤ gW h.1 := hw0
            have kcont := ih (d' + 1) y _ v h' hr p e R s m args below meth c Q n0 w0 hC hs (Nat.le_trans hn0 a1.1) (Nat.le_trans hw0 a1.2) hc1 hc2 hM hHR
            obtain ⟨ins, len, kd, a, b, wi⟩ := q
            have hl : xlen ins = 0 ∨ xlen ins = len := hl
            have hd : decode (xinfo y).2.1 pc = .ok (ins, len) := hd
            have h6 : xcls ins = 6 ∧ ((kd = 11 ∧ xdisp (ins, len, kd, a, b, wi) st h = some (.inr (.inr (y', as, rest)))) ∨ (kd ≠ 11 ∧ xcall (d' + 1) pc (ins, len, kd, a, b, wi) ls st h = some (.inr (.inr (y', as, rest))))) := by
              unfold xstep at hst
              dsimp only at hst
              split at hst
              · split at hst <;> cases hst
              · unfold xjmp at hst
                split at hst <;> repeat' split at hst
                all_goals (cases hst)
              · repeat' split at hst
                all_goals (cases hst)
              · repeat' split at hst
                all_goals (cases hst)
              · repeat' split at hst
                all_goals (cases hst)
              · unfold xheap at hst
                dsimp only at hst
                split at hst <;> repeat' split at hst
                all_goals (cases hst)
              · rename_i h6
                refine ⟨h6, ?_⟩
                split at hst
                · rename_i hk; exact Or.inl ⟨hk, hst⟩
                · rename_i hk; exact Or.inr ⟨hk, hst⟩
              · unfold xret at hst
                split at hst
                · split at hst
                  · rename_i z
                    by_cases hr9 : xretOk y z
                    · rw [if_pos hr9] at hst; cases hst
                    · rw [if_neg hr9] at hst; cases hst
                  · cases hst
                · split at hst
                  · split at hst <;> cases hst
                  · cases hst
                · split at hst
                  · split at hst <;> cases hst
                  · cases hst
                · split at hst
                  · split at hst <;> cases hst
                  · cases hst
                · cases hst
            obtain ⟨h6, hcase⟩ := h6
            have h3 : len = 3 := by
              have hl := hl.resolve_left (xlen_ne (by omega))
              rw [← hl]
              unfold xcls at h6
              split at h6 <;> first | (cases h6; done) | rfl
            subst h3
            rcases hcase with ⟨rfl, hdp⟩ | ⟨hk, hcl⟩
            · obtain ⟨b1, b2, b3⟩ := xdisp_inv hA.2.2.2.1 hdp
              have hmm := hA.2.2.2.2.2 y' b1
              have hmet := x_met hA ih b1 b2 (by have := hmm.2.2.2.2.2.2.2.2.2.1; split at this <;> split at b3 <;> omega) hcr
              have hiv : ∃ i, ins = .invokevirtual i := by
                unfold xcls at h6
                split at h6 <;> first | (cases h6; done) | skip
                · exfalso
                  unfold xsq at hsq
                  dsimp only at hsq
                  simp at hsq
                · exfalso
                  unfold xsq at hsq
                  dsimp only at hsq
                  simp at hsq
                · exact ⟨_, rfl⟩
              obtain ⟨i, rfl⟩ := hiv
              exact x_disp hC hs hn0 hw0 a1.1 a1.2 (by omega) (by omega) hA.2.2.2.2.2 hA.2.2.2.1 hsq hd hdp hmet kcont
            · obtain ⟨b1, b2, b3, b4⟩ := xcall_inv hcl
              have b1 : kd ≤ 1 := b1
              have b2 : y' = a := b2
              have hlt := xtgt_lt h6 b1 hsq
              have hlt' : y' < 221 := by rw [b2]; exact hlt
              have hmm := hA.2.2.2.2.2 y' hlt'
              have hmet := x_met hA ih hlt' b3 (by have := hmm.2.2.2.2.2.2.2.2.2.1; split at this <;> split at b4 <;> omega) hcr
              exact x_call hC hs hn0 hw0 a1.1 a1.2 (by omega) (by omega) hA.2.2.2.2.2 hA.1 h6 hsq hd b1 hcl hmet kcont
end X10
end
section
/-! THE OBJECTS once both constructors have run: kinds, sizes, references; numbered in the order in which they are made -/
def Tgl : List Nat := [999, 10, 7, 100, 104, 8, 4, 100, 3, 4, 100, 3, 4, 100, 3, 4, 100, 3, 4, 100, 3, 4, 100, 3, 4, 100, 7, 100, 104, 8, 4, 100, 3, 4, 100, 3, 4, 100, 3, 4, 100, 3, 4, 100, 3, 4, 100, 3, 4, 100, 2, 103, 7, 100, 104, 8, 4, 100, 3, 4, 100, 3, 4, 100, 3, 4, 100, 3, 4, 100, 3, 4, 100, 3, 4, 100, 7, 100, 104, 8, 4, 100, 3, 4, 100, 3, 4, 100, 3, 4, 100, 3, 4, 100, 3, 4, 100, 3, 4, 100, 7, 100, 104, 8, 4, 100, 3, 4, 100, 3, 4, 100, 3, 4, 100, 3, 4, 100, 3, 4, 100, 3, 4, 100, 7, 100, 104, 8, 4, 100, 3, 4, 100, 3, 4, 100, 3, 4, 100, 3, 4, 100, 3, 4, 100, 3, 4, 100, 7, 100, 104, 8, 4, 100, 3, 4, 100, 3, 4, 100, 3, 4, 100, 3, 4, 100, 3, 4, 100, 3, 4, 100, 6, 102, 5, 9, 1, 0, 100, 100, 100, 100, 11, 101, 101, 101, 100, 100]
def Zsl : List Nat := [0, 9, 11, 3, 6, 3, 2, 1728, 3, 2, 1728, 3, 2, 1728, 3, 2, 1728, 3, 2, 1728, 3, 2, 1728, 3, 2, 1728, 11, 3, 6, 3, 2, 1728, 3, 2, 1728, 3, 2, 1728, 3, 2, 1728, 3, 2, 1728, 3, 2, 1728, 3, 2, 1728, 3, 5, 11, 3, 6, 3, 2, 1728, 3, 2, 1728, 3, 2, 1728, 3, 2, 1728, 3, 2, 1728, 3, 2, 1728, 3, 2, 1728, 11, 3, 6, 3, 2, 1728, 3, 2, 1728, 3, 2, 1728, 3, 2, 1728, 3, 2, 1728, 3, 2, 1728, 3, 2, 1728, 11, 3, 6, 3, 2, 1728, 3, 2, 1728, 3, 2, 1728, 3, 2, 1728, 3, 2, 1728, 3, 2, 1728, 3, 2, 1728, 11, 3, 6, 3, 2, 1728, 3, 2, 1728, 3, 2, 1728, 3, 2, 1728, 3, 2, 1728, 3, 2, 1728, 3, 2, 1728, 11, 3, 6, 3, 2, 1728, 3, 2, 1728, 3, 2, 1728, 3, 2, 1728, 3, 2, 1728, 3, 2, 1728, 3, 2, 1728, 2, 60, 0, 0, 4, 4, 36, 6, 48, 60, 9, 1376, 5504, 1376, 60, 3]
def Prl : List (List Nat) := [[], [2, 26, 50, 172, 174, 175, 176, 177], [3, 4, 5], [], [8, 11, 14, 17, 20, 23], [6], [7], [], [9], [10], [], [12], [13], [], [15], [16], [], [18], [19], [], [21], [22], [], [24], [25], [], [27, 28, 29], [], [32, 35, 38, 41, 44, 47], [30], [31], [], [33], [34], [], [36], [37], [], [39], [40], [], [42], [43], [], [45], [46], [], [48], [49], [], [51], [52, 76, 100, 124, 148], [53, 54, 55], [], [58, 61, 64, 67, 70, 73], [56], [57], [], [59], [60], [], [62], [63], [], [65], [66], [], [68], [69], [], [71], [72], [], [74], [75], [], [77, 78, 79], [], [82, 85, 88, 91, 94, 97], [80], [81], [], [83], [84], [], [86], [87], [], [89], [90], [], [92], [93], [], [95], [96], [], [98], [99], [], [101, 102, 103], [], [106, 109, 112, 115, 118, 121], [104], [105], [], [107], [108], [], [110], [111], [], [113], [114], [], [116], [117], [], [119], [120], [], [122], [123], [], [125, 126, 127], [], [130, 133, 136, 139, 142, 145], [128], [129], [], [131], [132], [], [134], [135], [], [137], [138], [], [140], [141], [], [143], [144], [], [146], [147], [], [149, 150, 151], [], [154, 157, 160, 163, 166, 169], [152], [153], [], [155], [156], [], [158], [159], [], [161], [162], [], [164], [165], [], [167], [168], [], [170], [171], [], [173], [], [], [], [], [178, 179, 180, 181], [], [], [], [], [183, 184, 0, 185, 0, 186, 0, 187], [], [], [], [], []]
def Tg (r : Nat) : Nat := Tgl.getD r 999
def Zs (r : Nat) : Nat := Zsl.getD r 0
def Pr (r k : Nat) : Nat := (Prl.getD r []).getD k 0
def G0 : xG := (187, 93622, Tg, Zs, Pr)
theorem Tg_lt {r t : Nat} (h : Tg r = t) (ht : t ≠ 999) : 1 ≤ r ∧ r ≤ 187 := by
  rcases Nat.lt_or_ge r 188 with q | q
  · cases r with
    | zero => exact absurd h.symm ht
    | succ r => omega
  · exfalso
    unfold Tg at h
    rw [List.getD_eq_getElem?_getD, List.getElem?_eq_none (show Tgl.length ≤ r from q)] at h
    exact ht h.symm
theorem xobj_of {r t : Nat} (h : Tg r = t) (ht : t ≠ 999) : xobj G0 r t := ⟨(Tg_lt h ht).1, (Tg_lt h ht).2, h⟩
/-- what is decided for each object -/
theorem Tg_dec {P : Nat → Prop} [DecidablePred P] (h : (List.range 188).all (fun r => decide (P r)) = true) {r t : Nat} (hr : Tg r = t) (ht : t ≠ 999) : P r :=
  of_decide_eq_true (List.all_eq_true.mp h r (List.mem_range.mpr (by have := (Tg_lt hr ht).2; omega)))
theorem pf_0_0 {r : Nat} (h : Tg r = 0) : Tg (Pr r 0) = 100 := Tg_dec (P := fun r => Tg r = 0 → Tg (Pr r 0) = 100) (by decide +kernel) h (by decide) h
theorem pz_0_0 {r : Nat} (h : Tg r = 0) : Zs (Pr r 0) = 36 := Tg_dec (P := fun r => Tg r = 0 → Zs (Pr r 0) = 36) (by decide +kernel) h (by decide) h
theorem pf_0_1 {r : Nat} (h : Tg r = 0) : Tg (Pr r 1) = 100 := Tg_dec (P := fun r => Tg r = 0 → Tg (Pr r 1) = 100) (by decide +kernel) h (by decide) h
theorem pz_0_1 {r : Nat} (h : Tg r = 0) : Zs (Pr r 1) = 6 := Tg_dec (P := fun r => Tg r = 0 → Zs (Pr r 1) = 6) (by decide +kernel) h (by decide) h
theorem pf_0_2 {r : Nat} (h : Tg r = 0) : Tg (Pr r 2) = 100 := Tg_dec (P := fun r => Tg r = 0 → Tg (Pr r 2) = 100) (by decide +kernel) h (by decide) h
theorem pz_0_2 {r : Nat} (h : Tg r = 0) : Zs (Pr r 2) = 48 := Tg_dec (P := fun r => Tg r = 0 → Zs (Pr r 2) = 48) (by decide +kernel) h (by decide) h
theorem pf_0_3 {r : Nat} (h : Tg r = 0) : Tg (Pr r 3) = 100 := Tg_dec (P := fun r => Tg r = 0 → Tg (Pr r 3) = 100) (by decide +kernel) h (by decide) h
theorem pz_0_3 {r : Nat} (h : Tg r = 0) : Zs (Pr r 3) = 60 := Tg_dec (P := fun r => Tg r = 0 → Zs (Pr r 3) = 60) (by decide +kernel) h (by decide) h
theorem pf_2_0 {r : Nat} (h : Tg r = 2) : Tg (Pr r 0) = 103 := Tg_dec (P := fun r => Tg r = 2 → Tg (Pr r 0) = 103) (by decide +kernel) h (by decide) h
theorem pz_2_0 {r : Nat} (h : Tg r = 2) : Zs (Pr r 0) = 5 := Tg_dec (P := fun r => Tg r = 2 → Zs (Pr r 0) = 5) (by decide +kernel) h (by decide) h
theorem pf_3_0 {r : Nat} (h : Tg r = 3) : Tg (Pr r 0) = 4 := Tg_dec (P := fun r => Tg r = 3 → Tg (Pr r 0) = 4) (by decide +kernel) h (by decide) h
theorem pf_4_0 {r : Nat} (h : Tg r = 4) : Tg (Pr r 0) = 100 := Tg_dec (P := fun r => Tg r = 4 → Tg (Pr r 0) = 100) (by decide +kernel) h (by decide) h
theorem pz_4_0 {r : Nat} (h : Tg r = 4) : Zs (Pr r 0) = 1728 := Tg_dec (P := fun r => Tg r = 4 → Zs (Pr r 0) = 1728) (by decide +kernel) h (by decide) h
theorem pf_6_0 {r : Nat} (h : Tg r = 6) : Tg (Pr r 0) = 102 := Tg_dec (P := fun r => Tg r = 6 → Tg (Pr r 0) = 102) (by decide +kernel) h (by decide) h
theorem pz_6_0 {r : Nat} (h : Tg r = 6) : Zs (Pr r 0) = 60 := Tg_dec (P := fun r => Tg r = 6 → Zs (Pr r 0) = 60) (by decide +kernel) h (by decide) h
theorem pf_7_0 {r : Nat} (h : Tg r = 7) : Tg (Pr r 0) = 100 := Tg_dec (P := fun r => Tg r = 7 → Tg (Pr r 0) = 100) (by decide +kernel) h (by decide) h
theorem pz_7_0 {r : Nat} (h : Tg r = 7) : Zs (Pr r 0) = 3 := Tg_dec (P := fun r => Tg r = 7 → Zs (Pr r 0) = 3) (by decide +kernel) h (by decide) h
theorem pf_7_1 {r : Nat} (h : Tg r = 7) : Tg (Pr r 1) = 104 := Tg_dec (P := fun r => Tg r = 7 → Tg (Pr r 1) = 104) (by decide +kernel) h (by decide) h
theorem pz_7_1 {r : Nat} (h : Tg r = 7) : Zs (Pr r 1) = 6 := Tg_dec (P := fun r => Tg r = 7 → Zs (Pr r 1) = 6) (by decide +kernel) h (by decide) h
theorem pf_7_2 {r : Nat} (h : Tg r = 7) : Tg (Pr r 2) = 8 := Tg_dec (P := fun r => Tg r = 7 → Tg (Pr r 2) = 8) (by decide +kernel) h (by decide) h
theorem pf_8_0 {r : Nat} (h : Tg r = 8) : Tg (Pr r 0) = 4 := Tg_dec (P := fun r => Tg r = 8 → Tg (Pr r 0) = 4) (by decide +kernel) h (by decide) h
theorem pf_10_0 {r : Nat} (h : Tg r = 10) : Tg (Pr r 0) = 7 := Tg_dec (P := fun r => Tg r = 10 → Tg (Pr r 0) = 7) (by decide +kernel) h (by decide) h
theorem pf_10_1 {r : Nat} (h : Tg r = 10) : Tg (Pr r 1) = 7 := Tg_dec (P := fun r => Tg r = 10 → Tg (Pr r 1) = 7) (by decide +kernel) h (by decide) h
theorem pf_10_2 {r : Nat} (h : Tg r = 10) : Tg (Pr r 2) = 2 := Tg_dec (P := fun r => Tg r = 10 → Tg (Pr r 2) = 2) (by decide +kernel) h (by decide) h
theorem pf_10_3 {r : Nat} (h : Tg r = 10) : Tg (Pr r 3) = 6 := Tg_dec (P := fun r => Tg r = 10 → Tg (Pr r 3) = 6) (by decide +kernel) h (by decide) h
theorem pf_10_4 {r : Nat} (h : Tg r = 10) : Tg (Pr r 4) = 5 := Tg_dec (P := fun r => Tg r = 10 → Tg (Pr r 4) = 5) (by decide +kernel) h (by decide) h
theorem pf_10_5 {r : Nat} (h : Tg r = 10) : Tg (Pr r 5) = 9 := Tg_dec (P := fun r => Tg r = 10 → Tg (Pr r 5) = 9) (by decide +kernel) h (by decide) h
theorem pf_10_6 {r : Nat} (h : Tg r = 10) : Tg (Pr r 6) = 1 := Tg_dec (P := fun r => Tg r = 10 → Tg (Pr r 6) = 1) (by decide +kernel) h (by decide) h
theorem pf_10_7 {r : Nat} (h : Tg r = 10) : Tg (Pr r 7) = 0 := Tg_dec (P := fun r => Tg r = 10 → Tg (Pr r 7) = 0) (by decide +kernel) h (by decide) h
theorem pf_11_0 {r : Nat} (h : Tg r = 11) : Tg (Pr r 0) = 101 := Tg_dec (P := fun r => Tg r = 11 → Tg (Pr r 0) = 101) (by decide +kernel) h (by decide) h
theorem pz_11_0 {r : Nat} (h : Tg r = 11) : Zs (Pr r 0) = 1376 := Tg_dec (P := fun r => Tg r = 11 → Zs (Pr r 0) = 1376) (by decide +kernel) h (by decide) h
theorem pf_11_1 {r : Nat} (h : Tg r = 11) : Tg (Pr r 1) = 101 := Tg_dec (P := fun r => Tg r = 11 → Tg (Pr r 1) = 101) (by decide +kernel) h (by decide) h
theorem pz_11_1 {r : Nat} (h : Tg r = 11) : Zs (Pr r 1) = 5504 := Tg_dec (P := fun r => Tg r = 11 → Zs (Pr r 1) = 5504) (by decide +kernel) h (by decide) h
theorem pf_11_3 {r : Nat} (h : Tg r = 11) : Tg (Pr r 3) = 101 := Tg_dec (P := fun r => Tg r = 11 → Tg (Pr r 3) = 101) (by decide +kernel) h (by decide) h
theorem pz_11_3 {r : Nat} (h : Tg r = 11) : Zs (Pr r 3) = 1376 := Tg_dec (P := fun r => Tg r = 11 → Zs (Pr r 3) = 1376) (by decide +kernel) h (by decide) h
theorem pf_11_5 {r : Nat} (h : Tg r = 11) : Tg (Pr r 5) = 100 := Tg_dec (P := fun r => Tg r = 11 → Tg (Pr r 5) = 100) (by decide +kernel) h (by decide) h
theorem pz_11_5 {r : Nat} (h : Tg r = 11) : Zs (Pr r 5) = 60 := Tg_dec (P := fun r => Tg r = 11 → Zs (Pr r 5) = 60) (by decide +kernel) h (by decide) h
theorem pf_11_7 {r : Nat} (h : Tg r = 11) : Tg (Pr r 7) = 100 := Tg_dec (P := fun r => Tg r = 11 → Tg (Pr r 7) = 100) (by decide +kernel) h (by decide) h
theorem pz_11_7 {r : Nat} (h : Tg r = 11) : Zs (Pr r 7) = 3 := Tg_dec (P := fun r => Tg r = 11 → Zs (Pr r 7) = 3) (by decide +kernel) h (by decide) h
theorem pe_104 {r : Nat} (h : Tg r = 104) : ∀ j, j < 6 → Tg (Pr r j) = 3 := Tg_dec (P := fun r => Tg r = 104 → ∀ j, j < 6 → Tg (Pr r j) = 3) (by decide +kernel) h (by decide) h
theorem pe_103 {r : Nat} (h : Tg r = 103) : ∀ j, j < 5 → Tg (Pr r j) = 7 := Tg_dec (P := fun r => Tg r = 103 → ∀ j, j < 5 → Tg (Pr r j) = 7) (by decide +kernel) h (by decide) h
end
section
/-! runs of the interpreter over the objects G0: a row an instruction -/
def Rn (rom : xRom) (d y : Nat) (σ : xF) (out : Option xV × xH) : Prop := ∃ f, xrun rom f d y σ = some out
theorem xrun_up {rom : xRom} : ∀ (f : Nat) {d y : Nat} {σ : xF} {out : Option xV × xH}, xrun rom f d y σ = some out → xrun rom (f + 1) d y σ = some out
  | 0, _, _, _, _, h => by cases h
  | f + 1, d, y, (pc, ls, st, h0), out, h => by
    unfold xrun at h ⊢
    split at h
    · cases h
    · rename_i q hq
      split at h
      · cases h
      · rename_i σ hs
        exact xrun_up f h
      · rename_i v hs
        exact h
      · rename_i y' as rest hs
        split at h
        · cases h
        · rename_i d'
          split at h
          · cases h
          · rename_i v h' hc
            rw [xrun_up f hc]
            exact xrun_up f h
theorem xrun_le {rom : xRom} {f g : Nat} {d y : Nat} {σ : xF} {out : Option xV × xH} (hfg : f ≤ g) (h : xrun rom f d y σ = some out) : xrun rom g d y σ = some out := by
  induction hfg with
  | refl => exact h
  | step _ ih => exact xrun_up _ ih
section RN
variable {rom : xRom} {d y pc : Nat} {ls : xLs} {st : List xV} {M : xM} {out : Option xV × xH} {cd : List (Option xQ)}
theorem Rn_next {h : xH} {q : xQ} {σ : xF} (hq : xcode y pc = some q) (hs : xstep rom d y pc q ls st h = some (.inl σ)) (k : Rn rom d y σ out) : Rn rom d y (pc, ls, st, h) out := by
  obtain ⟨f, hf⟩ := k
  refine ⟨f + 1, ?_⟩
  show (match xcode y pc with | none => none | some q => _) = _
  rw [hq]
  dsimp only
  rw [hs]
  exact hf
theorem Rn_fin {h : xH} {q : xQ} {v : Option xV} (hq : xcode y pc = some q) (hs : xstep rom d y pc q ls st h = some (.inr (.inl v))) : Rn rom d y (pc, ls, st, h) (v, h) := by
  refine ⟨1, ?_⟩
  show (match xcode y pc with | none => none | some q => _) = _
  rw [hq]
  dsimp only
  rw [hs]
theorem Rn_inv {h h1 : xH} {q : xQ} {y' : Nat} {as rest : List xV} {v : Option xV} (hq : xcode y pc = some q) (hs : xstep rom (d + 1) y pc q ls st h = some (.inr (.inr (y', as, rest)))) (hc : Rn rom d y' (0, xentry y' as, [], h) (v, h1)) (k : Rn rom (d + 1) y (pc + 3, ls, v.toList ++ rest, h1) out) : Rn rom (d + 1) y (pc, ls, st, h) out := by
  obtain ⟨f, hf⟩ := hc
  obtain ⟨g, hg⟩ := k
  refine ⟨max f g + 1, ?_⟩
  show (match xcode y pc with | none => none | some q => _) = _
  rw [hq]
  dsimp only
  rw [hs]
  dsimp only
  rw [xrun_le (Nat.le_max_left f g) hf]
  exact xrun_le (Nat.le_max_right f g) hg
/-- what only stack and locals see, many at once -/
def xms (rom : xRom) (cd : List (Option xQ)) (d y : Nat) : Nat → xF → Option xF
  | 0, σ => some σ
  | k + 1, (pc, ls, st, h) => match cd.getD pc none with
    | some q => match xstep rom d y pc q ls st h with
      | some (.inl σ) => xms rom cd d y k σ
      | _ => none
    | none => none
theorem xcode_cd (hc : xkall.getD y [] = cd) (pc : Nat) : xcode y pc = cd.getD pc none := by
  show (xkall.getD y []).getD pc none = _
  rw [hc]
theorem Rn_ms (hc : xkall.getD y [] = cd) : ∀ (k : Nat) {σ σ' : xF}, xms rom cd d y k σ = some σ' → Rn rom d y σ' out → Rn rom d y σ out
  | 0, σ, σ', h, r => by cases h; exact r
  | k + 1, (pc, ls, st, h0), σ', h, r => by
    unfold xms at h
    split at h
    · rename_i q hq
      split at h
      · rename_i σ1 hs
        exact Rn_next ((xcode_cd hc pc).trans hq) hs (Rn_ms hc k h r)
      · cases h
    · cases h
theorem Rn_getI {i len kd ci k wi r : Nat} (hc : xkall.getD y [] = cd) (hq : cd.getD pc none = some (.getfield i, len, kd, ci, k, wi)) (hT : Tg r = ci) (hci : ci ≠ 999) (hf : ¬ xfk ci k = 2) (kk : Rn rom d y (pc + 3, ls, vI (M r k) :: st, (G0, M)) out) : Rn rom d y (pc, ls, vR r :: st, (G0, M)) out := by
  refine Rn_next ((xcode_cd hc pc).trans hq) (σ := (pc + 3, ls, vI (M r k) :: st, (G0, M))) ?_ kk
  show (if xobj G0 r ci then nx (pc + 3) ls ((if xfk ci k = 2 then vR (gP G0 r k) else vI (M r k)) :: st) (G0, M) else none) = _
  rw [if_pos (xobj_of hT hci), if_neg hf]
theorem Rn_getR {i len kd ci k wi r r' : Nat} (hc : xkall.getD y [] = cd) (hq : cd.getD pc none = some (.getfield i, len, kd, ci, k, wi)) (hT : Tg r = ci) (hci : ci ≠ 999) (hf : xfk ci k = 2) (hp : Pr r k = r') (kk : Rn rom d y (pc + 3, ls, vR r' :: st, (G0, M)) out) : Rn rom d y (pc, ls, vR r :: st, (G0, M)) out := by
  subst hp
  refine Rn_next ((xcode_cd hc pc).trans hq) (σ := (pc + 3, ls, vR (Pr r k) :: st, (G0, M))) ?_ kk
  show (if xobj G0 r ci then nx (pc + 3) ls ((if xfk ci k = 2 then vR (gP G0 r k) else vI (M r k)) :: st) (G0, M) else none) = _
  rw [if_pos (xobj_of hT hci), if_pos hf]; rfl
theorem Rn_putI {i len kd ci k wi r : Nat} {z : Int} (hc : xkall.getD y [] = cd) (hq : cd.getD pc none = some (.putfield i, len, kd, ci, k, wi)) (hT : Tg r = ci) (hci : ci ≠ 999) (hf : xfk ci k = 0 ∨ (xfk ci k = 1 ∧ (wr z = 0 ∨ wr z = 1))) (kk : Rn rom d y (pc + 3, ls, st, (G0, xset M r k z)) out) : Rn rom d y (pc, ls, vI z :: vR r :: st, (G0, M)) out := by
  refine Rn_next ((xcode_cd hc pc).trans hq) (σ := (pc + 3, ls, st, (G0, xset M r k z))) ?_ kk
  show (if xobj G0 r ci ∧ (xfk ci k = 0 ∨ (xfk ci k = 1 ∧ (wr z = 0 ∨ wr z = 1))) then nx (pc + 3) ls st (G0, xset M r k z) else none) = _
  rw [if_pos ⟨xobj_of hT hci, hf⟩]
theorem Rn_iald {q : xQ} {r n jn : Nat} {j : Int} (hc : xkall.getD y [] = cd) (hq : cd.getD pc none = some q) (hi : q.1 = .iaload) (hT : Tg r = 100) (hZ : Zs r = n) (h0 : 0 ≤ wr j ∧ wr j < n) (hj : (wr j).toNat = jn) (kk : Rn rom d y (pc + 1, ls, vI (M r jn) :: st, (G0, M)) out) : Rn rom d y (pc, ls, vI j :: vR r :: st, (G0, M)) out := by
  obtain ⟨ins, len, kd, a, b, wi⟩ := q
  subst hi
  subst hj
  refine Rn_next ((xcode_cd hc pc).trans hq) (σ := (pc + 1, ls, vI (M r (wr j).toNat) :: st, (G0, M))) ?_ kk
  show (if xobj G0 r 100 ∧ 0 ≤ wr j ∧ wr j < gZ G0 r then nx (pc + 1) ls (vI (M r (wr j).toNat) :: st) (G0, M) else none) = _
  rw [if_pos ⟨xobj_of hT (by decide), h0.1, by rw [show gZ G0 r = n from hZ]; exact h0.2⟩]
theorem Rn_cald {q : xQ} {r n jn : Nat} {j : Int} (hc : xkall.getD y [] = cd) (hq : cd.getD pc none = some q) (hi : q.1 = .caload) (hT : Tg r = 102) (hZ : Zs r = n) (h0 : 0 ≤ wr j ∧ wr j < n) (hj : (wr j).toNat = jn) (kk : Rn rom d y (pc + 1, ls, vI (M r jn) :: st, (G0, M)) out) : Rn rom d y (pc, ls, vI j :: vR r :: st, (G0, M)) out := by
  obtain ⟨ins, len, kd, a, b, wi⟩ := q
  subst hi
  subst hj
  refine Rn_next ((xcode_cd hc pc).trans hq) (σ := (pc + 1, ls, vI (M r (wr j).toNat) :: st, (G0, M))) ?_ kk
  show (if xobj G0 r 102 ∧ 0 ≤ wr j ∧ wr j < gZ G0 r then nx (pc + 1) ls (vI (M r (wr j).toNat) :: st) (G0, M) else none) = _
  rw [if_pos ⟨xobj_of hT (by decide), h0.1, by rw [show gZ G0 r = n from hZ]; exact h0.2⟩]
theorem Rn_lald {q : xQ} {r n jn : Nat} {j : Int} (hc : xkall.getD y [] = cd) (hq : cd.getD pc none = some q) (hi : q.1 = .laload) (hT : Tg r = 101) (hZ : Zs r = n) (h0 : 0 ≤ wr j ∧ wr j < n) (hj : (wr j).toNat = jn) (kk : Rn rom d y (pc + 1, ls, vL (M r jn) :: st, (G0, M)) out) : Rn rom d y (pc, ls, vI j :: vR r :: st, (G0, M)) out := by
  obtain ⟨ins, len, kd, a, b, wi⟩ := q
  subst hi
  subst hj
  refine Rn_next ((xcode_cd hc pc).trans hq) (σ := (pc + 1, ls, vL (M r (wr j).toNat) :: st, (G0, M))) ?_ kk
  show (if xobj G0 r 101 ∧ 0 ≤ wr j ∧ wr j < gZ G0 r then nx (pc + 1) ls (vL (M r (wr j).toNat) :: st) (G0, M) else none) = _
  rw [if_pos ⟨xobj_of hT (by decide), h0.1, by rw [show gZ G0 r = n from hZ]; exact h0.2⟩]
theorem Rn_aald {q : xQ} {r n jn : Nat} {j : Int} (hc : xkall.getD y [] = cd) (hq : cd.getD pc none = some q) (hi : q.1 = .aaload) (hT : Tg r = 103 ∨ Tg r = 104) (hZ : Zs r = n) (h0 : 0 ≤ wr j ∧ wr j < n) (hj : (wr j).toNat = jn) (kk : Rn rom d y (pc + 1, ls, vR (Pr r jn) :: st, (G0, M)) out) : Rn rom d y (pc, ls, vI j :: vR r :: st, (G0, M)) out := by
  obtain ⟨ins, len, kd, a, b, wi⟩ := q
  subst hi
  subst hj
  refine Rn_next ((xcode_cd hc pc).trans hq) (σ := (pc + 1, ls, vR (Pr r (wr j).toNat) :: st, (G0, M))) ?_ kk
  show (if 1 ≤ r ∧ r ≤ gN G0 ∧ (gT G0 r = 103 ∨ gT G0 r = 104) ∧ 0 ≤ wr j ∧ wr j < gZ G0 r then nx (pc + 1) ls (vR (gP G0 r (wr j).toNat) :: st) (G0, M) else none) = _
  have hb : 1 ≤ r ∧ r ≤ gN G0 := by
    rcases hT with h | h
    · exact Tg_lt h (by decide)
    · exact Tg_lt h (by decide)
  rw [if_pos ⟨hb.1, hb.2, hT, h0.1, by rw [show gZ G0 r = n from hZ]; exact h0.2⟩]; rfl
theorem Rn_romld {q : xQ} {k jn : Nat} {j : Int} (hc : xkall.getD y [] = cd) (hq : cd.getD pc none = some q) (hi : q.1 = .iaload) (hk : k < 3) (h0 : 0 ≤ wr j ∧ wr j < (rom k).1) (hj : (wr j).toNat = jn) (kk : Rn rom d y (pc + 1, ls, vI ((rom k).2 jn) :: st, (G0, M)) out) : Rn rom d y (pc, ls, vI j :: vS k :: st, (G0, M)) out := by
  obtain ⟨ins, len, kd, a, b, wi⟩ := q
  subst hi
  subst hj
  refine Rn_next ((xcode_cd hc pc).trans hq) (σ := (pc + 1, ls, vI ((rom k).2 (wr j).toNat) :: st, (G0, M))) ?_ kk
  show (if k < 3 ∧ 0 ≤ wr j ∧ wr j < (rom k).1 then nx (pc + 1) ls (vI ((rom k).2 (wr j).toNat) :: st) (G0, M) else none) = _
  rw [if_pos ⟨hk, h0.1, h0.2⟩]
theorem Rn_iast {q : xQ} {r n jn : Nat} {j z : Int} (hc : xkall.getD y [] = cd) (hq : cd.getD pc none = some q) (hi : q.1 = .iastore) (hT : Tg r = 100) (hZ : Zs r = n) (h0 : 0 ≤ wr j ∧ wr j < n) (hj : (wr j).toNat = jn) (kk : Rn rom d y (pc + 1, ls, st, (G0, xset M r jn z)) out) : Rn rom d y (pc, ls, vI z :: vI j :: vR r :: st, (G0, M)) out := by
  obtain ⟨ins, len, kd, a, b, wi⟩ := q
  subst hi
  subst hj
  refine Rn_next ((xcode_cd hc pc).trans hq) (σ := (pc + 1, ls, st, (G0, xset M r (wr j).toNat z))) ?_ kk
  show (if xobj G0 r 100 ∧ 0 ≤ wr j ∧ wr j < gZ G0 r then nx (pc + 1) ls st (G0, xset M r (wr j).toNat z) else none) = _
  rw [if_pos ⟨xobj_of hT (by decide), h0.1, by rw [show gZ G0 r = n from hZ]; exact h0.2⟩]
theorem Rn_cast {q : xQ} {r n jn : Nat} {j z : Int} (hc : xkall.getD y [] = cd) (hq : cd.getD pc none = some q) (hi : q.1 = .castore) (hT : Tg r = 102) (hZ : Zs r = n) (h0 : 0 ≤ wr j ∧ wr j < n) (hz : 0 ≤ wr z ∧ wr z < 65536) (hj : (wr j).toNat = jn) (kk : Rn rom d y (pc + 1, ls, st, (G0, xset M r jn z)) out) : Rn rom d y (pc, ls, vI z :: vI j :: vR r :: st, (G0, M)) out := by
  obtain ⟨ins, len, kd, a, b, wi⟩ := q
  subst hi
  subst hj
  refine Rn_next ((xcode_cd hc pc).trans hq) (σ := (pc + 1, ls, st, (G0, xset M r (wr j).toNat z))) ?_ kk
  show (if xobj G0 r 102 ∧ 0 ≤ wr j ∧ wr j < gZ G0 r ∧ 0 ≤ wr z ∧ wr z < 65536 then nx (pc + 1) ls st (G0, xset M r (wr j).toNat z) else none) = _
  rw [if_pos ⟨xobj_of hT (by decide), h0.1, by rw [show gZ G0 r = n from hZ]; exact h0.2, hz.1, hz.2⟩]
theorem Rn_last {q : xQ} {r n jn : Nat} {j z : Int} (hc : xkall.getD y [] = cd) (hq : cd.getD pc none = some q) (hi : q.1 = .lastore) (hT : Tg r = 101) (hZ : Zs r = n) (h0 : 0 ≤ wr j ∧ wr j < n) (hj : (wr j).toNat = jn) (kk : Rn rom d y (pc + 1, ls, st, (G0, xset M r jn z)) out) : Rn rom d y (pc, ls, vL z :: vI j :: vR r :: st, (G0, M)) out := by
  obtain ⟨ins, len, kd, a, b, wi⟩ := q
  subst hi
  subst hj
  refine Rn_next ((xcode_cd hc pc).trans hq) (σ := (pc + 1, ls, st, (G0, xset M r (wr j).toNat z))) ?_ kk
  show (if xobj G0 r 101 ∧ 0 ≤ wr j ∧ wr j < gZ G0 r then nx (pc + 1) ls st (G0, xset M r (wr j).toNat z) else none) = _
  rw [if_pos ⟨xobj_of hT (by decide), h0.1, by rw [show gZ G0 r = n from hZ]; exact h0.2⟩]
theorem Rn_alen {q : xQ} {r t n : Nat} (hc : xkall.getD y [] = cd) (hq : cd.getD pc none = some q) (hi : q.1 = .arraylength) (hT : Tg r = t) (ht : 100 ≤ t ∧ t < 105) (hZ : Zs r = n) (kk : Rn rom d y (pc + 1, ls, vI (n : Nat) :: st, (G0, M)) out) : Rn rom d y (pc, ls, vR r :: st, (G0, M)) out := by
  obtain ⟨ins, len, kd, a, b, wi⟩ := q
  subst hi
  refine Rn_next ((xcode_cd hc pc).trans hq) (σ := (pc + 1, ls, vI (n : Nat) :: st, (G0, M))) ?_ kk
  show (if 1 ≤ r ∧ r ≤ gN G0 ∧ 100 ≤ gT G0 r ∧ gT G0 r < 105 then nx (pc + 1) ls (vI (gZ G0 r) :: st) (G0, M) else none) = _
  have hT' : gT G0 r = t := hT
  have hb := Tg_lt hT (by omega)
  rw [if_pos ⟨hb.1, hb.2, by omega, by omega⟩, show gZ G0 r = n from hZ]
theorem Rn_romlen {q : xQ} {k : Nat} (hc : xkall.getD y [] = cd) (hq : cd.getD pc none = some q) (hi : q.1 = .arraylength) (hk : k < 3) (kk : Rn rom d y (pc + 1, ls, vI (rom k).1 :: st, (G0, M)) out) : Rn rom d y (pc, ls, vS k :: st, (G0, M)) out := by
  obtain ⟨ins, len, kd, a, b, wi⟩ := q
  subst hi
  refine Rn_next ((xcode_cd hc pc).trans hq) (σ := (pc + 1, ls, vI (rom k).1 :: st, (G0, M))) ?_ kk
  show (if k < 3 then nx (pc + 1) ls (vI (rom k).1 :: st) (G0, M) else none) = _
  rw [if_pos hk]
theorem Rn_icT {q : xQ} {cn : ClassFile.Cond} {off x z : Int} {tgt : Nat} {h : xH} (hc : xkall.getD y [] = cd) (hq : cd.getD pc none = some q) (hi : q.1 = .if_icmp cn off) (ho : (pc : Int) + off = (tgt : Nat)) (hx : xcmp cn (wr x) (wr z)) (kk : Rn rom d y (tgt, ls, st, h) out) : Rn rom d y (pc, ls, vI z :: vI x :: st, h) out := by
  obtain ⟨ins, len, kd, a, b, wi⟩ := q
  subst hi
  refine Rn_next ((xcode_cd hc pc).trans hq) (σ := (tgt, ls, st, h)) ?_ kk
  show (if 0 ≤ (pc : Int) + off then @ite _ (xcmp cn (wr x) (wr z)) (xcmpD _ _ _) (nx (xtgt pc off) ls st h) (nx (pc + 3) ls st h) else none) = _
  rw [if_pos (by omega), if_pos hx]
  unfold xtgt; rw [ho]; rfl
theorem Rn_icF {q : xQ} {cn : ClassFile.Cond} {off x z : Int} {h : xH} (hc : xkall.getD y [] = cd) (hq : cd.getD pc none = some q) (hi : q.1 = .if_icmp cn off) (ho : 0 ≤ (pc : Int) + off) (hx : ¬ xcmp cn (wr x) (wr z)) (kk : Rn rom d y (pc + 3, ls, st, h) out) : Rn rom d y (pc, ls, vI z :: vI x :: st, h) out := by
  obtain ⟨ins, len, kd, a, b, wi⟩ := q
  subst hi
  refine Rn_next ((xcode_cd hc pc).trans hq) (σ := (pc + 3, ls, st, h)) ?_ kk
  show (if 0 ≤ (pc : Int) + off then @ite _ (xcmp cn (wr x) (wr z)) (xcmpD _ _ _) (nx (xtgt pc off) ls st h) (nx (pc + 3) ls st h) else none) = _
  rw [if_pos ho, if_neg hx]
theorem Rn_ifT {q : xQ} {cn : ClassFile.Cond} {off x : Int} {tgt : Nat} {h : xH} (hc : xkall.getD y [] = cd) (hq : cd.getD pc none = some q) (hi : q.1 = .ifCond cn off) (ho : (pc : Int) + off = (tgt : Nat)) (hx : xcmp cn (wr x) 0) (kk : Rn rom d y (tgt, ls, st, h) out) : Rn rom d y (pc, ls, vI x :: st, h) out := by
  obtain ⟨ins, len, kd, a, b, wi⟩ := q
  subst hi
  refine Rn_next ((xcode_cd hc pc).trans hq) (σ := (tgt, ls, st, h)) ?_ kk
  show (if 0 ≤ (pc : Int) + off then @ite _ (xcmp cn (wr x) 0) (xcmpD _ _ _) (nx (xtgt pc off) ls st h) (nx (pc + 3) ls st h) else none) = _
  rw [if_pos (by omega), if_pos hx]
  unfold xtgt; rw [ho]; rfl
theorem Rn_ifF {q : xQ} {cn : ClassFile.Cond} {off x : Int} {h : xH} (hc : xkall.getD y [] = cd) (hq : cd.getD pc none = some q) (hi : q.1 = .ifCond cn off) (ho : 0 ≤ (pc : Int) + off) (hx : ¬ xcmp cn (wr x) 0) (kk : Rn rom d y (pc + 3, ls, st, h) out) : Rn rom d y (pc, ls, vI x :: st, h) out := by
  obtain ⟨ins, len, kd, a, b, wi⟩ := q
  subst hi
  refine Rn_next ((xcode_cd hc pc).trans hq) (σ := (pc + 3, ls, st, h)) ?_ kk
  show (if 0 ≤ (pc : Int) + off then @ite _ (xcmp cn (wr x) 0) (xcmpD _ _ _) (nx (xtgt pc off) ls st h) (nx (pc + 3) ls st h) else none) = _
  rw [if_pos ho, if_neg hx]
theorem Rn_nuT {q : xQ} {off : Int} {k tgt : Nat} {h : xH} (hc : xkall.getD y [] = cd) (hq : cd.getD pc none = some q) (hi : q.1 = .ifnull off) (ho : (pc : Int) + off = (tgt : Nat)) (hx : k = 0) (kk : Rn rom d y (tgt, ls, st, h) out) : Rn rom d y (pc, ls, vR k :: st, h) out := by
  obtain ⟨ins, len, kd, a, b, wi⟩ := q
  subst hi
  refine Rn_next ((xcode_cd hc pc).trans hq) (σ := (tgt, ls, st, h)) ?_ kk
  show (if 0 ≤ (pc : Int) + off then (if k = 0 then nx (xtgt pc off) ls st h else nx (pc + 3) ls st h) else none) = _
  rw [if_pos (by omega), if_pos hx]
  unfold xtgt; rw [ho]; rfl
theorem Rn_nuF {q : xQ} {off : Int} {k : Nat} {h : xH} (hc : xkall.getD y [] = cd) (hq : cd.getD pc none = some q) (hi : q.1 = .ifnull off) (ho : 0 ≤ (pc : Int) + off) (hx : ¬ k = 0) (kk : Rn rom d y (pc + 3, ls, st, h) out) : Rn rom d y (pc, ls, vR k :: st, h) out := by
  obtain ⟨ins, len, kd, a, b, wi⟩ := q
  subst hi
  refine Rn_next ((xcode_cd hc pc).trans hq) (σ := (pc + 3, ls, st, h)) ?_ kk
  show (if 0 ≤ (pc : Int) + off then (if k = 0 then nx (xtgt pc off) ls st h else nx (pc + 3) ls st h) else none) = _
  rw [if_pos ho, if_neg hx]
theorem Rn_nnT {q : xQ} {off : Int} {k tgt : Nat} {h : xH} (hc : xkall.getD y [] = cd) (hq : cd.getD pc none = some q) (hi : q.1 = .ifnonnull off) (ho : (pc : Int) + off = (tgt : Nat)) (hx : ¬ k = 0) (kk : Rn rom d y (tgt, ls, st, h) out) : Rn rom d y (pc, ls, vR k :: st, h) out := by
  obtain ⟨ins, len, kd, a, b, wi⟩ := q
  subst hi
  refine Rn_next ((xcode_cd hc pc).trans hq) (σ := (tgt, ls, st, h)) ?_ kk
  show (if 0 ≤ (pc : Int) + off then (if k = 0 then nx (pc + 3) ls st h else nx (xtgt pc off) ls st h) else none) = _
  rw [if_pos (by omega), if_neg hx]
  unfold xtgt; rw [ho]; rfl
theorem Rn_nnF {q : xQ} {off : Int} {k : Nat} {h : xH} (hc : xkall.getD y [] = cd) (hq : cd.getD pc none = some q) (hi : q.1 = .ifnonnull off) (ho : 0 ≤ (pc : Int) + off) (hx : k = 0) (kk : Rn rom d y (pc + 3, ls, st, h) out) : Rn rom d y (pc, ls, vR k :: st, h) out := by
  obtain ⟨ins, len, kd, a, b, wi⟩ := q
  subst hi
  refine Rn_next ((xcode_cd hc pc).trans hq) (σ := (pc + 3, ls, st, h)) ?_ kk
  show (if 0 ≤ (pc : Int) + off then (if k = 0 then nx (pc + 3) ls st h else nx (xtgt pc off) ls st h) else none) = _
  rw [if_pos ho, if_pos hx]
/-- a tableswitch at a number that is known, or out of range -/
theorem Rn_tsw {q : xQ} {df lo hj x off : Int} {offs : Array Int} {tgt : Nat} {h : xH} (hc : xkall.getD y [] = cd) (hq : cd.getD pc none = some q) (hi : q.1 = .tableswitch df lo hj offs) (hx : xsw pc df lo hj offs (wr x) = off ∧ ((wr x - lo).toNat < offs.size ∨ wr x < lo ∨ hj < wr x)) (ho : (pc : Int) + off = (tgt : Nat)) (kk : Rn rom d y (tgt, ls, st, h) out) : Rn rom d y (pc, ls, vI x :: st, h) out := by
  obtain ⟨ins, len, kd, a, b, wi⟩ := q
  subst hi
  refine Rn_next ((xcode_cd hc pc).trans hq) (σ := (tgt, ls, st, h)) ?_ kk
  show (if 0 ≤ (pc : Int) + xsw pc df lo hj offs (wr x) ∧ ((wr x - lo).toNat < offs.size ∨ wr x < lo ∨ hj < wr x) then nx (xtgt pc (xsw pc df lo hj offs (wr x))) ls st h else none) = _
  rw [hx.1, if_pos ⟨by omega, hx.2⟩]
  unfold xtgt; rw [ho]; rfl
theorem xsw_at {pc : Nat} {df lo hi z k off : Int} {offs : Array Int} (hz : z = k) (h1 : ¬ k < lo) (h2 : ¬ hi < k) (h3 : (k - lo).toNat < offs.size) (h4 : offs.toList.getD (k - lo).toNat df = off) : xsw pc df lo hi offs z = off ∧ ((z - lo).toNat < offs.size ∨ z < lo ∨ hi < z) := by
  subst hz
  unfold xsw
  rw [if_neg h1, if_neg h2]
  exact ⟨h4, Or.inl h3⟩
theorem xsw_df {pc : Nat} {df lo hi z : Int} {offs : Array Int} (h : z < lo ∨ hi < z) : xsw pc df lo hi offs z = df ∧ ((z - lo).toNat < offs.size ∨ z < lo ∨ hi < z) := by
  refine ⟨?_, Or.inr h⟩
  unfold xsw
  rcases h with h | h
  · rw [if_pos h]
  · by_cases h1 : z < lo
    · rw [if_pos h1]
    · rw [if_neg h1, if_pos h]
theorem Rn_lsw {q : xQ} {df x off : Int} {ps : Array (Int × Int)} {tgt : Nat} {h : xH} (hc : xkall.getD y [] = cd) (hq : cd.getD pc none = some q) (hi : q.1 = .lookupswitch df ps) (hp : (ps.toList.zip (ps.toList.drop 1)).all (fun (a, next) => a.1 < next.1) = true) (hx : Op.lookupswitch.offset ps.toList df (wr x) = off) (ho : (pc : Int) + off = (tgt : Nat)) (kk : Rn rom d y (tgt, ls, st, h) out) : Rn rom d y (pc, ls, vI x :: st, h) out := by
  obtain ⟨ins, len, kd, a, b, wi⟩ := q
  subst hi
  refine Rn_next ((xcode_cd hc pc).trans hq) (σ := (tgt, ls, st, h)) ?_ kk
  show (if 0 ≤ (pc : Int) + Op.lookupswitch.offset ps.toList df (wr x) ∧ (ps.toList.zip (ps.toList.drop 1)).all (fun (a, next) => a.1 < next.1) = true then nx (xtgt pc (Op.lookupswitch.offset ps.toList df (wr x))) ls st h else none) = _
  rw [hx, if_pos ⟨by omega, hp⟩]
  unfold xtgt; rw [ho]; rfl
end RN
end
section
/-! runs over the objects G0: calls, ends, fewer locals -/
section RN2
variable {rom : xRom} {d y pc : Nat} {ls : xLs} {st : List xV} {M : xM} {out : Option xV × xH} {cd : List (Option xQ)}
theorem xinfo_ii {y : Nat} {ii : xI} (h : xiall.getD y xi_0 = ii) : xinfo y = ii := h
/-- a static method of ours -/
theorem Rn_cs {ins : ClassFile.Instr} {len kd y' b wi : Nat} {ii : xI} {as rest : List xV} {le : xLs} {v : Option xV} {M' : xM} (hc : xkall.getD y [] = cd) (hq : cd.getD pc none = some (ins, len, kd, y', b, wi)) (h6 : xcls ins = 6) (hk : kd ≤ 1) (hi : xiall.getD y' xi_0 = ii) (hf : ii.2.2.2.2.2.1 = 0)
    (hx : xinv y' ii.2.2.2.2.1 st = some (.inr (.inr (y', as, rest)))) (he : as.map some ++ List.replicate (ii.2.2.1 - as.length) none = le) (hcal : Rn rom d y' (0, le, [], (G0, M)) (v, (G0, M'))) (kk : Rn rom (d + 1) y (pc + 3, ls, v.toList ++ rest, (G0, M')) out) : Rn rom (d + 1) y (pc, ls, st, (G0, M)) out := by
  have hi : xinfo y' = ii := hi
  refine Rn_inv ((xcode_cd hc pc).trans hq) (y' := y') (as := as) (rest := rest) (h1 := (G0, M')) (v := v) ?_ ?_ kk
  · show (match xcls ins with | 0 => _ | 1 => _ | 2 => _ | 3 => _ | 4 => _ | 5 => _ | 6 => _ | _ => _) = _
    rw [h6]
    show (if kd = 11 then xdisp (ins, len, kd, y', b, wi) st (G0, M) else xcall (d + 1) pc (ins, len, kd, y', b, wi) ls st (G0, M)) = _
    rw [if_neg (by omega)]
    unfold xcall
    dsimp only
    rw [if_pos hk, hi, if_pos hf, hx]
  · unfold xentry; rw [hi, he]; exact hcal
/-- a method of an object -/
theorem Rn_cv {ins : ClassFile.Instr} {len kd y' b wi r : Nat} {ii : xI} {as rest : List xV} {le : xLs} {v : Option xV} {M' : xM} (hc : xkall.getD y [] = cd) (hq : cd.getD pc none = some (ins, len, kd, y', b, wi)) (h6 : xcls ins = 6) (hk : kd ≤ 1) (hi : xiall.getD y' xi_0 = ii) (hf : ii.2.2.2.2.2.1 = 1)
    (hr : st[ii.2.2.2.2.1]? = some (vR r)) (hT : Tg r = ii.2.2.2.2.2.2) (h9 : ii.2.2.2.2.2.2 ≠ 999) (hx : xinv y' (ii.2.2.2.2.1 + 1) st = some (.inr (.inr (y', as, rest)))) (he : as.map some ++ List.replicate (ii.2.2.1 - as.length) none = le) (hcal : Rn rom d y' (0, le, [], (G0, M)) (v, (G0, M'))) (kk : Rn rom (d + 1) y (pc + 3, ls, v.toList ++ rest, (G0, M')) out) : Rn rom (d + 1) y (pc, ls, st, (G0, M)) out := by
  have hi : xinfo y' = ii := hi
  have hb := Tg_lt hT h9
  refine Rn_inv ((xcode_cd hc pc).trans hq) (y' := y') (as := as) (rest := rest) (h1 := (G0, M')) (v := v) ?_ ?_ kk
  · show (match xcls ins with | 0 => _ | 1 => _ | 2 => _ | 3 => _ | 4 => _ | 5 => _ | 6 => _ | _ => _) = _
    rw [h6]
    show (if kd = 11 then xdisp (ins, len, kd, y', b, wi) st (G0, M) else xcall (d + 1) pc (ins, len, kd, y', b, wi) ls st (G0, M)) = _
    rw [if_neg (by omega)]
    unfold xcall
    dsimp only
    rw [if_pos hk, hi, if_neg (by omega), if_pos, hx]
    rw [hr, if_neg (by omega)]
    exact ⟨hb.1, hb.2, Or.inr hT⟩
  · unfold xentry; rw [hi, he]; exact hcal
/-- a method by the receiver's class -/
theorem Rn_cd {ins : ClassFile.Instr} {len a b wi y' k : Nat} {ii : xI} {as rest : List xV} {le : xLs} {v : Option xV} {M' : xM} (hc : xkall.getD y [] = cd) (hq : cd.getD pc none = some (ins, len, 11, a, b, wi)) (h6 : xcls ins = 6) (hi : xiall.getD y' xi_0 = ii)
    (hx : xdisp (ins, len, 11, a, b, wi) st (G0, M) = some (.inr (.inr (y', as, rest)))) (he : as.map some ++ List.replicate (ii.2.2.1 - as.length) none = le) (hcal : Rn rom d y' (0, le, [], (G0, M)) (v, (G0, M'))) (kk : Rn rom (d + 1) y (pc + 3, ls, v.toList ++ rest, (G0, M')) out) : Rn rom (d + 1) y (pc, ls, st, (G0, M)) out := by
  have hi : xinfo y' = ii := hi
  refine Rn_inv ((xcode_cd hc pc).trans hq) (y' := y') (as := as) (rest := rest) (h1 := (G0, M')) (v := v) ?_ ?_ kk
  · show (match xcls ins with | 0 => _ | 1 => _ | 2 => _ | 3 => _ | 4 => _ | 5 => _ | 6 => _ | _ => _) = _
    rw [h6]
    show (if 11 = 11 then xdisp (ins, len, 11, a, b, wi) st (G0, M) else xcall (d + 1) pc (ins, len, 11, a, b, wi) ls st (G0, M)) = _
    rw [if_pos rfl]; exact hx
  · unfold xentry; rw [hi, he]; exact hcal
theorem xdisp_0 {q : xQ} {u w : xV} {r : Nat} {rest : List xV} {h : xH} (ha : q.2.2.2.1 = 0) : (xobj h.1 r 5 → xdisp q (u :: w :: vR r :: rest) h = xinv 40 3 (u :: w :: vR r :: rest)) ∧ (xobj h.1 r 9 → xdisp q (u :: w :: vR r :: rest) h = xinv 93 3 (u :: w :: vR r :: rest)) := by
  constructor
  · intro o
    unfold xdisp; rw [ha]; exact if_pos o
  · intro o
    unfold xdisp; rw [ha]; exact (if_neg (fun o2 : xobj h.1 r 5 => by have := o.2.2.symm.trans o2.2.2; omega)).trans (if_pos o)
theorem xdisp_1 {q : xQ} {u : xV} {r : Nat} {rest : List xV} {h : xH} (ha : q.2.2.2.1 = 1) : (xobj h.1 r 5 → xdisp q (u :: vR r :: rest) h = xinv 42 2 (u :: vR r :: rest)) ∧ (xobj h.1 r 9 → xdisp q (u :: vR r :: rest) h = xinv 95 2 (u :: vR r :: rest)) := by
  constructor
  · intro o
    unfold xdisp; rw [ha]; exact if_pos o
  · intro o
    unfold xdisp; rw [ha]; exact (if_neg (fun o2 : xobj h.1 r 5 => by have := o.2.2.symm.trans o2.2.2; omega)).trans (if_pos o)
/-- arraycopy over int arrays -/
theorem Rn_copy {ins : ClassFile.Instr} {len a b wi ra r0 za z0 : Nat} {n dp sp : Int} (hc : xkall.getD y [] = cd) (hq : cd.getD pc none = some (ins, len, 10, a, b, wi)) (h6 : xcls ins = 6) (hT : Tg ra = 100) (hT0 : Tg r0 = 100) (hZ : Zs ra = za) (hZ0 : Zs r0 = z0)
    (hg : 0 ≤ wr sp ∧ 0 ≤ wr dp ∧ 0 ≤ wr n ∧ wr sp + wr n ≤ z0 ∧ wr dp + wr n ≤ za) (hs : (st.map xcat).sum ≤ 8) (kk : Rn rom (d + 1) y (pc + 3, ls, st, (G0, xrow M ra (xcpy (M r0) (M ra) (wr sp).toNat (wr dp).toNat (wr n).toNat))) out) : Rn rom (d + 1) y (pc, ls, vI n :: vI dp :: vR ra :: vI sp :: vR r0 :: st, (G0, M)) out := by
  refine Rn_next ((xcode_cd hc pc).trans hq) (σ := (pc + 3, ls, st, (G0, xrow M ra (xcpy (M r0) (M ra) (wr sp).toNat (wr dp).toNat (wr n).toNat)))) ?_ kk
  show (match xcls ins with | 0 => _ | 1 => _ | 2 => _ | 3 => _ | 4 => _ | 5 => _ | 6 => _ | _ => _) = _
  rw [h6]
  show (if xobj G0 ra 100 ∧ xobj G0 r0 100 ∧ 0 ≤ wr sp ∧ 0 ≤ wr dp ∧ 0 ≤ wr n ∧ wr sp + wr n ≤ gZ G0 r0 ∧ wr dp + wr n ≤ gZ G0 ra ∧ (st.map xcat).sum ≤ 8 then nx (pc + 3) ls st (G0, xrow M ra (xcpy (M r0) (M ra) (wr sp).toNat (wr dp).toNat (wr n).toNat)) else none) = _
  rw [if_pos ⟨xobj_of hT (by decide), xobj_of hT0 (by decide), hg.1, hg.2.1, hg.2.2.1, by rw [show gZ G0 r0 = z0 from hZ0]; exact hg.2.2.2.1, by rw [show gZ G0 ra = za from hZ]; exact hg.2.2.2.2, hs⟩]
def xmax (x z : Int) : Int := if wr x < wr z then z else x
def xmin (x z : Int) : Int := if wr z < wr x then z else x
def xabs (x : Int) : Int := if wr x < 0 then -x else x
def xlc (x z : Int) : Int := if wl x < wl z then -1 else if wl x = wl z then 0 else 1
theorem Rn_max {ins : ClassFile.Instr} {len a b wi : Nat} {x z : Int} {h : xH} (hc : xkall.getD y [] = cd) (hq : cd.getD pc none = some (ins, len, 7, a, b, wi)) (h6 : xcls ins = 6) (hs : (st.map xcat).sum ≤ 8) (kk : Rn rom (d + 1) y (pc + 3, ls, vI (xmax x z) :: st, h) out) : Rn rom (d + 1) y (pc, ls, vI z :: vI x :: st, h) out := by
  refine Rn_next ((xcode_cd hc pc).trans hq) (σ := (pc + 3, ls, vI (xmax x z) :: st, h)) ?_ kk
  show (match xcls ins with | 0 => _ | 1 => _ | 2 => _ | 3 => _ | 4 => _ | 5 => _ | 6 => _ | _ => _) = _
  rw [h6]
  exact if_pos hs
theorem Rn_min {ins : ClassFile.Instr} {len a b wi : Nat} {x z : Int} {h : xH} (hc : xkall.getD y [] = cd) (hq : cd.getD pc none = some (ins, len, 8, a, b, wi)) (h6 : xcls ins = 6) (hs : (st.map xcat).sum ≤ 8) (kk : Rn rom (d + 1) y (pc + 3, ls, vI (xmin x z) :: st, h) out) : Rn rom (d + 1) y (pc, ls, vI z :: vI x :: st, h) out := by
  refine Rn_next ((xcode_cd hc pc).trans hq) (σ := (pc + 3, ls, vI (xmin x z) :: st, h)) ?_ kk
  show (match xcls ins with | 0 => _ | 1 => _ | 2 => _ | 3 => _ | 4 => _ | 5 => _ | 6 => _ | _ => _) = _
  rw [h6]
  exact if_pos hs
theorem Rn_abs {ins : ClassFile.Instr} {len a b wi : Nat} {x : Int} {h : xH} (hc : xkall.getD y [] = cd) (hq : cd.getD pc none = some (ins, len, 9, a, b, wi)) (h6 : xcls ins = 6) (hs : (st.map xcat).sum ≤ 8) (kk : Rn rom (d + 1) y (pc + 3, ls, vI (xabs x) :: st, h) out) : Rn rom (d + 1) y (pc, ls, vI x :: st, h) out := by
  refine Rn_next ((xcode_cd hc pc).trans hq) (σ := (pc + 3, ls, vI (xabs x) :: st, h)) ?_ kk
  show (match xcls ins with | 0 => _ | 1 => _ | 2 => _ | 3 => _ | 4 => _ | 5 => _ | 6 => _ | _ => _) = _
  rw [h6]
  exact if_pos hs
theorem Rn_div {q : xQ} {x z z' : Int} {h : xH} (hc : xkall.getD y [] = cd) (hq : cd.getD pc none = some q) (hi : q.1 = .idiv ∧ q.2.1 = 1) (hz : wr z = z') (h0 : z' ≠ 0) (kk : Rn rom d y (pc + 1, ls, vI ((wr x).tdiv z') :: st, h) out) : Rn rom d y (pc, ls, vI z :: vI x :: st, h) out := by
  obtain ⟨ins, len, kd, a, b, wi⟩ := q
  obtain ⟨rfl, rfl⟩ := hi
  subst hz
  refine Rn_next ((xcode_cd hc pc).trans hq) (σ := (pc + 1, ls, vI ((wr x).tdiv (wr z)) :: st, h)) ?_ kk
  show (match (if wr z = 0 then none else some (vI ((wr x).tdiv (wr z)) :: st)) with | some st' => nx (pc + 1) ls st' h | none => none) = _
  rw [if_neg h0]
theorem Rn_rem {q : xQ} {x z z' : Int} {h : xH} (hc : xkall.getD y [] = cd) (hq : cd.getD pc none = some q) (hi : q.1 = .irem ∧ q.2.1 = 1) (hz : wr z = z') (h0 : z' ≠ 0) (kk : Rn rom d y (pc + 1, ls, vI ((wr x).tmod z') :: st, h) out) : Rn rom d y (pc, ls, vI z :: vI x :: st, h) out := by
  obtain ⟨ins, len, kd, a, b, wi⟩ := q
  obtain ⟨rfl, rfl⟩ := hi
  subst hz
  refine Rn_next ((xcode_cd hc pc).trans hq) (σ := (pc + 1, ls, vI ((wr x).tmod (wr z)) :: st, h)) ?_ kk
  show (match (if wr z = 0 then none else some (vI ((wr x).tmod (wr z)) :: st)) with | some st' => nx (pc + 1) ls st' h | none => none) = _
  rw [if_neg h0]
theorem Rn_ldiv {q : xQ} {x z z' : Int} {h : xH} (hc : xkall.getD y [] = cd) (hq : cd.getD pc none = some q) (hi : q.1 = .ldiv ∧ q.2.1 = 1) (hz : wl z = z') (h0 : z' ≠ 0) (kk : Rn rom d y (pc + 1, ls, vL ((wl x).tdiv z') :: st, h) out) : Rn rom d y (pc, ls, vL z :: vL x :: st, h) out := by
  obtain ⟨ins, len, kd, a, b, wi⟩ := q
  obtain ⟨rfl, rfl⟩ := hi
  subst hz
  refine Rn_next ((xcode_cd hc pc).trans hq) (σ := (pc + 1, ls, vL ((wl x).tdiv (wl z)) :: st, h)) ?_ kk
  show (match (if wl z = 0 then none else some (vL ((wl x).tdiv (wl z)) :: st)) with | some st' => nx (pc + 1) ls st' h | none => none) = _
  rw [if_neg h0]
theorem Rn_lrem {q : xQ} {x z z' : Int} {h : xH} (hc : xkall.getD y [] = cd) (hq : cd.getD pc none = some q) (hi : q.1 = .lrem ∧ q.2.1 = 1) (hz : wl z = z') (h0 : z' ≠ 0) (kk : Rn rom d y (pc + 1, ls, vL ((wl x).tmod z') :: st, h) out) : Rn rom d y (pc, ls, vL z :: vL x :: st, h) out := by
  obtain ⟨ins, len, kd, a, b, wi⟩ := q
  obtain ⟨rfl, rfl⟩ := hi
  subst hz
  refine Rn_next ((xcode_cd hc pc).trans hq) (σ := (pc + 1, ls, vL ((wl x).tmod (wl z)) :: st, h)) ?_ kk
  show (match (if wl z = 0 then none else some (vL ((wl x).tmod (wl z)) :: st)) with | some st' => nx (pc + 1) ls st' h | none => none) = _
  rw [if_neg h0]
def nnan (x : UInt64) : Prop := x &&& 0x7fffffffffffffff ≤ 0x7ff0000000000000
def nnanD (x : UInt64) : Decidable (nnan x) := by unfold nnan; exact inferInstance
theorem Rn_dmul {q : xQ} {x z : UInt64} {h : xH} (hc : xkall.getD y [] = cd) (hq : cd.getD pc none = some q) (hi : q.1 = .dmul ∧ q.2.1 = 1) (h0 : nnan (FP.dmul x z)) (kk : Rn rom d y (pc + 1, ls, vD (FP.dmul x z) :: st, h) out) : Rn rom d y (pc, ls, vD z :: vD x :: st, h) out := by
  obtain ⟨ins, len, kd, a, b, wi⟩ := q
  obtain ⟨rfl, rfl⟩ := hi
  refine Rn_next ((xcode_cd hc pc).trans hq) (σ := (pc + 1, ls, vD (FP.dmul x z) :: st, h)) ?_ kk
  have h1 : FP.dmul x z &&& 0x7fffffffffffffff ≤ 0x7ff0000000000000 := h0
  show (match (if FP.dmul x z &&& 0x7fffffffffffffff ≤ 0x7ff0000000000000 then some (vD (FP.dmul x z) :: st) else none) with | some st' => nx (pc + 1) ls st' h | none => none) = _
  rw [if_pos h1]
theorem Rn_ddiv {q : xQ} {x z : UInt64} {h : xH} (hc : xkall.getD y [] = cd) (hq : cd.getD pc none = some q) (hi : q.1 = .ddiv ∧ q.2.1 = 1) (h0 : nnan (FP.ddiv x z)) (kk : Rn rom d y (pc + 1, ls, vD (FP.ddiv x z) :: st, h) out) : Rn rom d y (pc, ls, vD z :: vD x :: st, h) out := by
  obtain ⟨ins, len, kd, a, b, wi⟩ := q
  obtain ⟨rfl, rfl⟩ := hi
  refine Rn_next ((xcode_cd hc pc).trans hq) (σ := (pc + 1, ls, vD (FP.ddiv x z) :: st, h)) ?_ kk
  have h1 : FP.ddiv x z &&& 0x7fffffffffffffff ≤ 0x7ff0000000000000 := h0
  show (match (if FP.ddiv x z &&& 0x7fffffffffffffff ≤ 0x7ff0000000000000 then some (vD (FP.ddiv x z) :: st) else none) with | some st' => nx (pc + 1) ls st' h | none => none) = _
  rw [if_pos h1]
/-- ends -/
theorem Rn_iret {q : xQ} {z : Int} {h : xH} (hc : xkall.getD y [] = cd) (hq : cd.getD pc none = some q) (hi : q.1 = .ireturn) (hz : xretOk y z) : Rn rom d y (pc, ls, [vI z], h) (some (vI z), h) := by
  obtain ⟨ins, len, kd, a, b, wi⟩ := q
  subst hi
  refine Rn_fin ((xcode_cd hc pc).trans hq) ?_
  show @ite _ (xretOk y z) (xretOkD y z) _ _ = _
  rw [if_pos hz]
theorem xretI {y : Nat} {z : Int} {ii : xI} (hi : xiall.getD y xi_0 = ii) (h : ii.2.2.2.1 = some .int) : xretOk y z := by
  have hi : xinfo y = ii := hi
  unfold xretOk; rw [hi, h]; trivial
theorem xretB {y : Nat} {z : Int} {ii : xI} (hi : xiall.getD y xi_0 = ii) (h : ii.2.2.2.1 = some .boolean) (hz : wr z = 0 ∨ wr z = 1) : xretOk y z := by
  have hi : xinfo y = ii := hi
  unfold xretOk; rw [hi, h]; exact hz
theorem xretC {y : Nat} {z : Int} {ii : xI} (hi : xiall.getD y xi_0 = ii) (h : ii.2.2.2.1 = some .char) (hz : 0 ≤ wr z ∧ wr z < 65536) : xretOk y z := by
  have hi : xinfo y = ii := hi
  unfold xretOk; rw [hi, h]; exact hz
theorem Rn_aret {q : xQ} {r : Nat} {ii : xI} {C : String} {h : xH} (hc : xkall.getD y [] = cd) (hq : cd.getD pc none = some q) (hi : q.1 = .areturn) (hii : xiall.getD y xi_0 = ii) (hC : ii.2.2.2.1 = some (.object C)) : Rn rom d y (pc, ls, [vR r], h) (some (vR r), h) := by
  obtain ⟨ins, len, kd, a, b, wi⟩ := q
  subst hi
  have hii : xinfo y = ii := hii
  refine Rn_fin ((xcode_cd hc pc).trans hq) ?_
  show (match (xinfo y).2.2.2.1 with | some (.object _) => some (.inr (.inl (some (vR r)))) | _ => none : Option xR) = _
  rw [hii, hC]
theorem Rn_dret {q : xQ} {x : UInt64} {ii : xI} {h : xH} (hc : xkall.getD y [] = cd) (hq : cd.getD pc none = some q) (hi : q.1 = .dreturn) (hii : xiall.getD y xi_0 = ii) (hC : ii.2.2.2.1 = some .double) : Rn rom d y (pc, ls, [vD x], h) (some (vD x), h) := by
  obtain ⟨ins, len, kd, a, b, wi⟩ := q
  subst hi
  have hii : xinfo y = ii := hii
  refine Rn_fin ((xcode_cd hc pc).trans hq) ?_
  show (match (xinfo y).2.2.2.1 with | some .double => some (.inr (.inl (some (vD x)))) | _ => none : Option xR) = _
  rw [hii, hC]
theorem Rn_vret {q : xQ} {ii : xI} {h : xH} (hc : xkall.getD y [] = cd) (hq : cd.getD pc none = some q) (hi : q.1 = .return_) (hii : xiall.getD y xi_0 = ii) (hC : ii.2.2.2.1 = none) : Rn rom d y (pc, ls, [], h) (none, h) := by
  obtain ⟨ins, len, kd, a, b, wi⟩ := q
  subst hi
  have hii : xinfo y = ii := hii
  refine Rn_fin ((xcode_cd hc pc).trans hq) ?_
  show (match (xinfo y).2.2.2.1 with | none => some (.inr (.inl none)) | _ => none : Option xR) = _
  rw [hii, hC]
end RN2
/-- fewer locals are known -/
def xle (a b : xLs) : Prop := a.length = b.length ∧ ∀ k v, a.getD k none = some v → b.getD k none = some v
theorem xle_0 : xle [] [] := ⟨rfl, fun _ _ h => h⟩
theorem xle_n {a b : xLs} {w : Option xV} (h : xle a b) : xle (none :: a) (w :: b) := ⟨by rw [List.length_cons, List.length_cons, h.1], fun k v hk => by
  cases k with
  | zero => cases hk
  | succ k => exact h.2 k v hk⟩
theorem xle_s {a b : xLs} {w : Option xV} (h : xle a b) : xle (w :: a) (w :: b) := ⟨by rw [List.length_cons, List.length_cons, h.1], fun k v hk => by
  cases k with
  | zero => exact hk
  | succ k => exact h.2 k v hk⟩
theorem xle_set {a b : xLs} (h : xle a b) (k : Nat) (o : Option xV) : xle (a.set k o) (b.set k o) := by
  refine ⟨by rw [List.length_set, List.length_set, h.1], fun i v hi => ?_⟩
  rw [xgetD_set] at hi ⊢
  rw [← h.1]
  split at hi
  · rename_i q; rw [if_pos q]; exact hi
  · rename_i q; rw [if_neg q]; exact h.2 i v hi
theorem xle_setn {a b : xLs} (h : xle a b) (k : Nat) (hk : a.getD k none = none) : xle a (b.set k none) := by
  refine ⟨by rw [List.length_set, h.1], fun i v hi => ?_⟩
  rw [xgetD_set]
  split
  · rename_i q; rw [q.1, hk] at hi; cases hi
  · exact h.2 i v hi
theorem xle_clr {a b : xLs} (h : xle a b) (k : Nat) : xle (xclr a k) (xclr b k) := by
  cases k with
  | zero => exact h
  | succ k =>
    show xle (match a.getD k none with | some v => if xcat v = 2 then a.set k none else a | none => a) (match b.getD k none with | some v => if xcat v = 2 then b.set k none else b | none => b)
    cases ha : a.getD k none with
    | some v =>
      rw [h.2 k v ha]
      dsimp only
      split
      · exact xle_set h k none
      · exact h
    | none =>
      dsimp only
      split
      · split
        · exact xle_setn h k ha
        · exact h
      · exact h
theorem xle_sto {a b : xLs} (h : xle a b) (k : Nat) (v : xV) : xle (xsto a k v) (xsto b k v) := by
  unfold xsto
  split
  · exact xle_set (xle_set (xle_clr h k) k _) _ _
  · exact xle_set (xle_clr h k) k _
/-- results with their locals weakened -/
def xlr (a b : Option xR) : Prop := match a with
  | none => True
  | some (.inl (pc, ls, st, h)) => ∃ ls', b = some (.inl (pc, ls', st, h)) ∧ xle ls ls'
  | some r => b = some r
theorem xlr_nx {a b : xLs} (h : xle a b) {pc : Nat} {st : List xV} {hh : xH} : xlr (nx pc a st hh) (nx pc b st hh) := ⟨b, rfl, h⟩
theorem xlr_n {b : Option xR} : xlr none b := trivial
theorem xlr_r {r : Option xV ⊕ (Nat × List xV × List xV)} : xlr (some (.inr r)) (some (.inr r)) := rfl
theorem xle_jmp {a b : xLs} (h : xle a b) {pc : Nat} {ins : ClassFile.Instr} {st : List xV} {hh : xH} : xlr (xjmp pc ins a st hh) (xjmp pc ins b st hh) := by
  unfold xjmp
  split <;> repeat' split
  all_goals first
    | exact xlr_n
    | exact xlr_nx h
theorem xle_heap {rom : xRom} {a b : xLs} (h : xle a b) {y pc : Nat} {q : xQ} {st : List xV} {hh : xH} : xlr (xheap rom y pc q a st hh) (xheap rom y pc q b st hh) := by
  unfold xheap
  split <;> repeat' split
  all_goals first
    | exact xlr_n
    | exact xlr_nx h
theorem xle_inv {y' k : Nat} {st : List xV} : xlr (xinv y' k st) (xinv y' k st) := by
  unfold xinv
  split
  · exact xlr_r
  · exact xlr_n
theorem xle_call {a b : xLs} (h : xle a b) {d pc : Nat} {q : xQ} {st : List xV} {hh : xH} : xlr (xcall d pc q a st hh) (xcall d pc q b st hh) := by
  unfold xcall
  dsimp only
  split
  · split
    · exact xle_inv
    · by_cases hr : xrecv hh.1 (if (xinfo q.2.2.2.1).2.2.2.2.2.1 = 2 then 99 else (xinfo q.2.2.2.1).2.2.2.2.2.2) (st[(xinfo q.2.2.2.1).2.2.2.2.1]?)
      · rw [if_pos hr]; exact xle_inv
      · rw [if_neg hr]; exact xlr_n
  · split
    · exact xlr_n
    · split <;> repeat' split
      all_goals first
        | exact xlr_n
        | exact xlr_nx h
theorem xle_step {rom : xRom} {a b : xLs} (h : xle a b) {d y pc : Nat} {q : xQ} {st : List xV} {hh : xH} : xlr (xstep rom d y pc q a st hh) (xstep rom d y pc q b st hh) := by
  unfold xstep
  split
  · split
    · exact xlr_nx h
    · exact xlr_n
  · exact xle_jmp h
  · split
    · rename_i k t hk
      cases ha : a.getD k none with
      | none => exact xlr_n
      | some v =>
        rw [h.2 k v ha]
        dsimp only
        split
        · exact xlr_nx h
        · exact xlr_n
    · exact xlr_n
  · split
    · rw [h.1]
      split
      · exact xlr_nx (xle_sto h _ _)
      · exact xlr_n
    · exact xlr_n
  · split
    · rename_i k n hk
      cases ha : a.getD k none with
      | none => exact xlr_n
      | some v =>
        rw [h.2 k v ha]
        cases v with
        | inl z => exact xlr_nx (xle_set h _ _)
        | inr w => exact xlr_n
    · exact xlr_n
  · exact xle_heap h
  · split
    · unfold xdisp
      split <;> repeat' split
      all_goals first
        | exact xlr_n
        | exact xle_inv
    · exact xle_call h
  · unfold xret
    split
    · split
      · rename_i z
        by_cases hz : xretOk y z
        · rw [if_pos hz]; exact xlr_r
        · rw [if_neg hz]; exact xlr_n
      · exact xlr_n
    · split
      · split
        · exact xlr_r
        · exact xlr_n
      · exact xlr_n
    · split
      · split
        · exact xlr_r
        · exact xlr_n
      · exact xlr_n
    · split
      · split
        · exact xlr_r
        · exact xlr_n
      · exact xlr_n
    · exact xlr_n
theorem xrun_weak {rom : xRom} : ∀ (f : Nat) {d y pc : Nat} {a b : xLs} {st : List xV} {h : xH} {out : Option xV × xH}, xle a b → xrun rom f d y (pc, a, st, h) = some out → xrun rom f d y (pc, b, st, h) = some out
  | 0, _, _, _, _, _, _, _, _, _, hr => by cases hr
  | f + 1, d, y, pc, a, b, st, h, out, hl, hr => by
    unfold xrun at hr ⊢
    split at hr
    · cases hr
    · rename_i q hq
      have hx := xle_step (rom := rom) hl (d := d) (y := y) (pc := pc) (q := q) (st := st) (hh := h)
      cases hs : xstep rom d y pc q a st h with
      | none => rw [hs] at hr; cases hr
      | some r =>
        rw [hs] at hr hx
        cases r with
        | inl σ =>
          obtain ⟨pc1, l1, st1, h1⟩ := σ
          obtain ⟨l2, e2, hl2⟩ := hx
          rw [e2]
          exact xrun_weak f hl2 hr
        | inr r =>
          have hx : xstep rom d y pc q b st h = some (.inr r) := hx
          rw [hx]
          cases r with
          | inl v => exact hr
          | inr c =>
            obtain ⟨y', as, rest⟩ := c
            dsimp only at hr ⊢
            cases d with
            | zero => cases hr
            | succ d' =>
              dsimp only at hr ⊢
              split at hr
              · cases hr
              · rename_i v h' hc
                exact xrun_weak f hl hr
theorem Rn_weak {rom : xRom} {d y pc : Nat} {a b : xLs} {st : List xV} {h : xH} {out : Option xV × xH} (hl : xle a b) (k : Rn rom d y (pc, a, st, h) out) : Rn rom d y (pc, b, st, h) out := by
  obtain ⟨f, hf⟩ := k
  exact ⟨f, xrun_weak f hl hf⟩
/-- more depth does no harm -/
theorem bind_some {α β : Type} {x : Option α} {f : α → Option β} {b : β} (h : x.bind f = some b) : ∃ a, x = some a ∧ f a = some b := by
  cases x with
  | none => cases h
  | some a => exact ⟨a, rfl, h⟩
def gd {α : Type} (c : Prop) [Decidable c] (k : Option α) : Option α := if c then k else none
theorem gd_some {α : Type} {c : Prop} [Decidable c] {k : Option α} {b : α} (h : gd c k = some b) : c ∧ k = some b := by
  unfold gd at h
  split at h
  · exact ⟨by assumption, h⟩
  · cases h
def gn {α : Type} (x : UInt64) (k : Option α) : Option α := @ite _ (nnan x) (nnanD x) k none
theorem gn_some {α : Type} {x : UInt64} {k : Option α} {b : α} (h : gn x k = some b) : nnan x ∧ k = some b := by
  unfold gn at h
  by_cases hx : nnan x
  · rw [if_pos hx] at h; exact ⟨hx, h⟩
  · rw [if_neg hx] at h; cases h
theorem gd_t {α : Type} {c : Prop} [Decidable c] {k : Option α} (h : c) : gd c k = k := if_pos h
end
section
/-! functions for methods: their words, and the rules by which a method's run follows its function -/
def NF : Nat := 1000000
def loop {σ ρ : Type} : Nat → (σ → Option (σ ⊕ ρ)) → σ → Option ρ
  | 0, _, _ => none
  | k + 1, b, s => (b s).bind (fun r => match r with | .inl s' => loop k b s' | .inr o => some o)
theorem R_loop {σ ρ : Type} {b : σ → Option (σ ⊕ ρ)} {G : σ → Prop} {K : ρ → Prop} (hb : ∀ s r, b s = some r → Sum.elim G K r → G s) : ∀ (k : Nat) (s : σ) (o : ρ), loop k b s = some o → K o → G s
  | 0, _, _, h, _ => by cases h
  | k + 1, s, o, h, hK => by
    obtain ⟨r, h1, h2⟩ := bind_some h
    cases r with
    | inl s' => exact hb s _ h1 (R_loop hb k s' o h2 hK)
    | inr o' => cases h2; exact hb s _ h1 hK
def bnd {α β : Type} (x : α) (f : α → β) : β := f x
theorem R_bnd {α β : Type} {x : α} {f : α → β} {o : β} {G : Prop} (e : bnd x f = o) (h : ∀ v, v = x → f v = o → G) : G := h x rfl e
theorem R_ite {α : Type} {c : Prop} [Decidable c] {A B o : α} {G : Prop} (e : (if c then A else B) = o) (h1 : c → A = o → G) (h2 : ¬ c → B = o → G) : G := by
  by_cases hc : c
  · rw [if_pos hc] at e; exact h1 hc e
  · rw [if_neg hc] at e; exact h2 hc e
theorem R_gd {α : Type} {c : Prop} [Decidable c] {k : Option α} {o : α} {G : Prop} (e : gd c k = some o) (h : c → k = some o → G) : G := h (gd_some e).1 (gd_some e).2
theorem R_gn {α : Type} {x : UInt64} {k : Option α} {o : α} {G : Prop} (e : gn x k = some o) (h : nnan x → k = some o → G) : G := h (gn_some e).1 (gn_some e).2
theorem R_bind {α β : Type} {x : Option α} {f : α → Option β} {o : β} {G : Prop} (e : x.bind f = some o) (h : ∀ v, x = some v → f v = some o → G) : G := by
  obtain ⟨v, h1, h2⟩ := bind_some e
  exact h v h1 h2
theorem R_end {rom : xRom} {d y : Nat} {σ : xF} {a out : Option xV × xH} (k : Rn rom d y σ a) (h : a = out) : Rn rom d y σ out := h ▸ k
def eI (M : xM) (out : Option xV × xH) (o : Int) : Prop := (some (vI o), (G0, M)) = out
def eR (M : xM) (out : Option xV × xH) (o : Nat) : Prop := (some (vR o), (G0, M)) = out
def eD (M : xM) (out : Option xV × xH) (o : UInt64) : Prop := (some (vD o), (G0, M)) = out
def eIW (out : Option xV × xH) (o : Int × xM) : Prop := (some (vI o.1), (G0, o.2)) = out
def eRW (out : Option xV × xH) (o : Nat × xM) : Prop := (some (vR o.1), (G0, o.2)) = out
def eDW (out : Option xV × xH) (o : UInt64 × xM) : Prop := (some (vD o.1), (G0, o.2)) = out
def eVW (out : Option xV × xH) (o : xM) : Prop := (none, (G0, o)) = out
def xand (x y : Int) : Int := (Int32.ofInt x &&& Int32.ofInt y).toInt
def xland (x y : Int) : Int := (Int64.ofInt x &&& Int64.ofInt y).toInt
def xlor (x y : Int) : Int := (Int64.ofInt x ||| Int64.ofInt y).toInt
def xlxor (x y : Int) : Int := (Int64.ofInt x ^^^ Int64.ofInt y).toInt
def xlshl (x y : Int) : Int := (Int64.ofInt x <<< ((Int32.ofInt y).toInt64 &&& 63)).toInt
def xlshr (x y : Int) : Int := (Int64.ofInt x >>> ((Int32.ofInt y).toInt64 &&& 63)).toInt
def xdc (x y : UInt64) : Int := (Op.cmpValue (FP.dcmp x y) .l).toInt
def xi2c (x : Int) : Int := wr x % 65536
def xi2d (x : Int) : UInt64 := FP.i2d (Int32.ofInt x)
theorem wr0 : wr 0 = 0 := by decide +kernel
section RN3
variable {rom : xRom} {d y pc : Nat} {ls : xLs} {st : List xV} {M : xM} {out : Option xV × xH} {cd : List (Option xQ)}
theorem Rn_putI' {M' : xM} {i len kd ci k wi r : Nat} {z : Int} (hM : M' = xset M r k z) (hc : xkall.getD y [] = cd) (hq : cd.getD pc none = some (.putfield i, len, kd, ci, k, wi)) (hT : Tg r = ci) (hci : ci ≠ 999) (hf : xfk ci k = 0 ∨ (xfk ci k = 1 ∧ (wr z = 0 ∨ wr z = 1))) (kk : Rn rom d y (pc + 3, ls, st, (G0, M')) out) : Rn rom d y (pc, ls, vI z :: vR r :: st, (G0, M)) out := by
  subst hM; exact Rn_putI hc hq hT hci hf kk
theorem Rn_iast' {M' : xM} {q : xQ} {r n jn : Nat} {j z : Int} (hM : M' = xset M r jn z) (hc : xkall.getD y [] = cd) (hq : cd.getD pc none = some q) (hi : q.1 = .iastore) (hT : Tg r = 100) (hZ : Zs r = n) (h0 : 0 ≤ wr j ∧ wr j < n) (hj : (wr j).toNat = jn) (kk : Rn rom d y (pc + 1, ls, st, (G0, M')) out) : Rn rom d y (pc, ls, vI z :: vI j :: vR r :: st, (G0, M)) out := by
  subst hM; exact Rn_iast hc hq hi hT hZ h0 hj kk
theorem Rn_last' {M' : xM} {q : xQ} {r n jn : Nat} {j z : Int} (hM : M' = xset M r jn z) (hc : xkall.getD y [] = cd) (hq : cd.getD pc none = some q) (hi : q.1 = .lastore) (hT : Tg r = 101) (hZ : Zs r = n) (h0 : 0 ≤ wr j ∧ wr j < n) (hj : (wr j).toNat = jn) (kk : Rn rom d y (pc + 1, ls, st, (G0, M')) out) : Rn rom d y (pc, ls, vL z :: vI j :: vR r :: st, (G0, M)) out := by
  subst hM; exact Rn_last hc hq hi hT hZ h0 hj kk
theorem Rn_cast' {M' : xM} {q : xQ} {r n jn : Nat} {j z : Int} (hM : M' = xset M r jn z) (hc : xkall.getD y [] = cd) (hq : cd.getD pc none = some q) (hi : q.1 = .castore) (hT : Tg r = 102) (hZ : Zs r = n) (h0 : 0 ≤ wr j ∧ wr j < n) (hz : 0 ≤ wr z ∧ wr z < 65536) (hj : (wr j).toNat = jn) (kk : Rn rom d y (pc + 1, ls, st, (G0, M')) out) : Rn rom d y (pc, ls, vI z :: vI j :: vR r :: st, (G0, M)) out := by
  subst hM; exact Rn_cast hc hq hi hT hZ h0 hz hj kk
theorem Rn_aald' {q : xQ} {r r' n jn : Nat} {j : Int} (hp : Pr r jn = r') (hc : xkall.getD y [] = cd) (hq : cd.getD pc none = some q) (hi : q.1 = .aaload) (hT : Tg r = 103 ∨ Tg r = 104) (hZ : Zs r = n) (h0 : 0 ≤ wr j ∧ wr j < n) (hj : (wr j).toNat = jn) (kk : Rn rom d y (pc + 1, ls, vR r' :: st, (G0, M)) out) : Rn rom d y (pc, ls, vI j :: vR r :: st, (G0, M)) out := by
  subst hp; exact Rn_aald hc hq hi hT hZ h0 hj kk
theorem Rn_gets {i len kd k b wi : Nat} {h : xH} (hc : xkall.getD y [] = cd) (hq : cd.getD pc none = some (.getstatic i, len, kd, k, b, wi)) (kk : Rn rom d y (pc + 3, ls, vS k :: st, h) out) : Rn rom d y (pc, ls, st, h) out := by
  refine Rn_next ((xcode_cd hc pc).trans hq) (σ := (pc + 3, ls, vS k :: st, h)) rfl kk
theorem Rn_copy' {M' : xM} {ins : ClassFile.Instr} {len a b wi ra r0 za z0 : Nat} {n : Int} (hM : M' = xrow M ra (xcpy (M r0) (M ra) 0 0 (wr n).toNat)) (hc : xkall.getD y [] = cd) (hq : cd.getD pc none = some (ins, len, 10, a, b, wi)) (h6 : xcls ins = 6) (hT : Tg ra = 100) (hT0 : Tg r0 = 100) (hZ : Zs ra = za) (hZ0 : Zs r0 = z0)
    (hg : 0 ≤ wr n ∧ wr n ≤ z0 ∧ wr n ≤ za) (hs : (st.map xcat).sum ≤ 8) (kk : Rn rom (d + 1) y (pc + 3, ls, st, (G0, M')) out) : Rn rom (d + 1) y (pc, ls, vI n :: vI 0 :: vR ra :: vI 0 :: vR r0 :: st, (G0, M)) out := by
  subst hM
  refine Rn_copy hc hq h6 hT hT0 hZ hZ0 (by rw [wr0]; omega) hs ?_
  rw [wr0]; exact kk
end RN3
end
section
/-! where the objects lie -/
theorem tgc_1 : Tg 1 = 10 := by decide +kernel
theorem prc_1_0 : Pr 1 0 = 2 := by decide +kernel
theorem prc_1_1 : Pr 1 1 = 26 := by decide +kernel
theorem prc_1_2 : Pr 1 2 = 50 := by decide +kernel
theorem prc_1_3 : Pr 1 3 = 172 := by decide +kernel
theorem prc_1_4 : Pr 1 4 = 174 := by decide +kernel
theorem prc_1_5 : Pr 1 5 = 175 := by decide +kernel
theorem prc_1_6 : Pr 1 6 = 176 := by decide +kernel
theorem prc_1_7 : Pr 1 7 = 177 := by decide +kernel
theorem tgc_2 : Tg 2 = 7 := by decide +kernel
theorem prc_2_0 : Pr 2 0 = 3 := by decide +kernel
theorem prc_2_1 : Pr 2 1 = 4 := by decide +kernel
theorem prc_2_2 : Pr 2 2 = 5 := by decide +kernel
theorem tgc_26 : Tg 26 = 7 := by decide +kernel
theorem prc_26_0 : Pr 26 0 = 27 := by decide +kernel
theorem prc_26_1 : Pr 26 1 = 28 := by decide +kernel
theorem prc_26_2 : Pr 26 2 = 29 := by decide +kernel
theorem tgc_50 : Tg 50 = 2 := by decide +kernel
theorem prc_50_0 : Pr 50 0 = 51 := by decide +kernel
theorem tgc_51 : Tg 51 = 103 := by decide +kernel
theorem zsc_51 : Zs 51 = 5 := by decide +kernel
theorem tgc_172 : Tg 172 = 6 := by decide +kernel
theorem prc_172_0 : Pr 172 0 = 173 := by decide +kernel
theorem tgc_173 : Tg 173 = 102 := by decide +kernel
theorem zsc_173 : Zs 173 = 60 := by decide +kernel
theorem tgc_174 : Tg 174 = 5 := by decide +kernel
theorem tgc_175 : Tg 175 = 9 := by decide +kernel
theorem tgc_176 : Tg 176 = 1 := by decide +kernel
theorem tgc_177 : Tg 177 = 0 := by decide +kernel
theorem prc_177_0 : Pr 177 0 = 178 := by decide +kernel
theorem prc_177_1 : Pr 177 1 = 179 := by decide +kernel
theorem prc_177_2 : Pr 177 2 = 180 := by decide +kernel
theorem prc_177_3 : Pr 177 3 = 181 := by decide +kernel
theorem tgc_178 : Tg 178 = 100 := by decide +kernel
theorem zsc_178 : Zs 178 = 36 := by decide +kernel
theorem tgc_179 : Tg 179 = 100 := by decide +kernel
theorem zsc_179 : Zs 179 = 6 := by decide +kernel
theorem tgc_180 : Tg 180 = 100 := by decide +kernel
theorem zsc_180 : Zs 180 = 48 := by decide +kernel
theorem tgc_181 : Tg 181 = 100 := by decide +kernel
theorem zsc_181 : Zs 181 = 60 := by decide +kernel
theorem tgc_182 : Tg 182 = 11 := by decide +kernel
theorem prc_182_0 : Pr 182 0 = 183 := by decide +kernel
theorem prc_182_1 : Pr 182 1 = 184 := by decide +kernel
theorem prc_182_3 : Pr 182 3 = 185 := by decide +kernel
theorem prc_182_5 : Pr 182 5 = 186 := by decide +kernel
theorem prc_182_7 : Pr 182 7 = 187 := by decide +kernel
theorem tgc_183 : Tg 183 = 101 := by decide +kernel
theorem zsc_183 : Zs 183 = 1376 := by decide +kernel
theorem tgc_184 : Tg 184 = 101 := by decide +kernel
theorem zsc_184 : Zs 184 = 5504 := by decide +kernel
theorem tgc_185 : Tg 185 = 101 := by decide +kernel
theorem zsc_185 : Zs 185 = 1376 := by decide +kernel
theorem tgc_186 : Tg 186 = 100 := by decide +kernel
theorem zsc_186 : Zs 186 = 60 := by decide +kernel
theorem tgc_187 : Tg 187 = 100 := by decide +kernel
theorem zsc_187 : Zs 187 = 3 := by decide +kernel
theorem gT7_1 {r : Nat} (h : Tg r = 7) : Tg (r + 1) = 100 := Tg_dec (P := fun r => Tg r = 7 → Tg (r + 1) = 100) (by decide +kernel) h (by decide) h
theorem gZ7_1 {r : Nat} (h : Tg r = 7) : Zs (r + 1) = 3 := Tg_dec (P := fun r => Tg r = 7 → Zs (r + 1) = 3) (by decide +kernel) h (by decide) h
theorem gT7_2 {r : Nat} (h : Tg r = 7) : Tg (r + 2) = 104 := Tg_dec (P := fun r => Tg r = 7 → Tg (r + 2) = 104) (by decide +kernel) h (by decide) h
theorem gZ7_2 {r : Nat} (h : Tg r = 7) : Zs (r + 2) = 6 := Tg_dec (P := fun r => Tg r = 7 → Zs (r + 2) = 6) (by decide +kernel) h (by decide) h
theorem gT7_3 {r : Nat} (h : Tg r = 7) : Tg (r + 3) = 8 := Tg_dec (P := fun r => Tg r = 7 → Tg (r + 3) = 8) (by decide +kernel) h (by decide) h
theorem gT7_4 {r : Nat} (h : Tg r = 7) : Tg (r + 4) = 4 := Tg_dec (P := fun r => Tg r = 7 → Tg (r + 4) = 4) (by decide +kernel) h (by decide) h
theorem gT7_5 {r : Nat} (h : Tg r = 7) : Tg (r + 5) = 100 := Tg_dec (P := fun r => Tg r = 7 → Tg (r + 5) = 100) (by decide +kernel) h (by decide) h
theorem gZ7_5 {r : Nat} (h : Tg r = 7) : Zs (r + 5) = 1728 := Tg_dec (P := fun r => Tg r = 7 → Zs (r + 5) = 1728) (by decide +kernel) h (by decide) h
theorem gT3_1 {r : Nat} (h : Tg r = 3) : Tg (r + 1) = 4 := Tg_dec (P := fun r => Tg r = 3 → Tg (r + 1) = 4) (by decide +kernel) h (by decide) h
theorem gT3_2 {r : Nat} (h : Tg r = 3) : Tg (r + 2) = 100 := Tg_dec (P := fun r => Tg r = 3 → Tg (r + 2) = 100) (by decide +kernel) h (by decide) h
theorem gZ3_2 {r : Nat} (h : Tg r = 3) : Zs (r + 2) = 1728 := Tg_dec (P := fun r => Tg r = 3 → Zs (r + 2) = 1728) (by decide +kernel) h (by decide) h
theorem gT8_1 {r : Nat} (h : Tg r = 8) : Tg (r + 1) = 4 := Tg_dec (P := fun r => Tg r = 8 → Tg (r + 1) = 4) (by decide +kernel) h (by decide) h
theorem gT8_2 {r : Nat} (h : Tg r = 8) : Tg (r + 2) = 100 := Tg_dec (P := fun r => Tg r = 8 → Tg (r + 2) = 100) (by decide +kernel) h (by decide) h
theorem gZ8_2 {r : Nat} (h : Tg r = 8) : Zs (r + 2) = 1728 := Tg_dec (P := fun r => Tg r = 8 → Zs (r + 2) = 1728) (by decide +kernel) h (by decide) h
theorem gT4_1 {r : Nat} (h : Tg r = 4) : Tg (r + 1) = 100 := Tg_dec (P := fun r => Tg r = 4 → Tg (r + 1) = 100) (by decide +kernel) h (by decide) h
theorem gZ4_1 {r : Nat} (h : Tg r = 4) : Zs (r + 1) = 1728 := Tg_dec (P := fun r => Tg r = 4 → Zs (r + 1) = 1728) (by decide +kernel) h (by decide) h
theorem gP7_0_0 {r : Nat} (h : Tg r = 7) : Pr (r + 0) 0 = r + 1 := Tg_dec (P := fun r => Tg r = 7 → Pr (r + 0) 0 = r + 1) (by decide +kernel) h (by decide) h
theorem gP7_0_1 {r : Nat} (h : Tg r = 7) : Pr (r + 0) 1 = r + 2 := Tg_dec (P := fun r => Tg r = 7 → Pr (r + 0) 1 = r + 2) (by decide +kernel) h (by decide) h
theorem gP7_0_2 {r : Nat} (h : Tg r = 7) : Pr (r + 0) 2 = r + 3 := Tg_dec (P := fun r => Tg r = 7 → Pr (r + 0) 2 = r + 3) (by decide +kernel) h (by decide) h
theorem gP7_3_0 {r : Nat} (h : Tg r = 7) : Pr (r + 3) 0 = r + 4 := Tg_dec (P := fun r => Tg r = 7 → Pr (r + 3) 0 = r + 4) (by decide +kernel) h (by decide) h
theorem gP7_4_0 {r : Nat} (h : Tg r = 7) : Pr (r + 4) 0 = r + 5 := Tg_dec (P := fun r => Tg r = 7 → Pr (r + 4) 0 = r + 5) (by decide +kernel) h (by decide) h
theorem gP3_0_0 {r : Nat} (h : Tg r = 3) : Pr (r + 0) 0 = r + 1 := Tg_dec (P := fun r => Tg r = 3 → Pr (r + 0) 0 = r + 1) (by decide +kernel) h (by decide) h
theorem gP3_1_0 {r : Nat} (h : Tg r = 3) : Pr (r + 1) 0 = r + 2 := Tg_dec (P := fun r => Tg r = 3 → Pr (r + 1) 0 = r + 2) (by decide +kernel) h (by decide) h
theorem gP8_0_0 {r : Nat} (h : Tg r = 8) : Pr (r + 0) 0 = r + 1 := Tg_dec (P := fun r => Tg r = 8 → Pr (r + 0) 0 = r + 1) (by decide +kernel) h (by decide) h
theorem gP8_1_0 {r : Nat} (h : Tg r = 8) : Pr (r + 1) 0 = r + 2 := Tg_dec (P := fun r => Tg r = 8 → Pr (r + 1) 0 = r + 2) (by decide +kernel) h (by decide) h
theorem gP4_0_0 {r : Nat} (h : Tg r = 4) : Pr (r + 0) 0 = r + 1 := Tg_dec (P := fun r => Tg r = 4 → Pr (r + 0) 0 = r + 1) (by decide +kernel) h (by decide) h
theorem gE7 {r : Nat} (h : Tg r = 7) : ∀ j, j < 6 → Pr (r + 2) j = r + 6 + 3 * j := Tg_dec (P := fun r => Tg r = 7 → ∀ j, j < 6 → Pr (r + 2) j = r + 6 + 3 * j) (by decide +kernel) h (by decide) h
theorem gL7 {r : Nat} (h : Tg r = 7) : ∀ j, j < 6 → Tg (r + 6 + 3 * j) = 3 := Tg_dec (P := fun r => Tg r = 7 → ∀ j, j < 6 → Tg (r + 6 + 3 * j) = 3) (by decide +kernel) h (by decide) h
theorem gE51 : ∀ j, j < 5 → Pr 51 j = 52 + 24 * j := by decide +kernel
theorem gL51 : ∀ j, j < 5 → Tg (52 + 24 * j) = 7 := by decide +kernel
end
section
/-! functions for methods, by program (wip/whole/gen/dec.py) -/
/-- PedalLayers$Pedal.lowestHeardKey -/
def f_65 (M : xM) (a0 : Nat) : Int :=
  if wr (M a0 3) = 0 then
    0
  else
    12
theorem t_65 {rom : xRom} {d : Nat} {M : xM} {a0 : Nat} (h0 : Tg a0 = 7) {r : Int} {out : Option xV × xH} (e : f_65 M a0 = r) (hK : eI M out r) : Rn rom (d + 0) 65 (0, [some (vR a0)], [], (G0, M)) out := by
  have hc : xkall.getD 65 [] = xk_65 := rfl
  unfold f_65 at e
  refine Rn_ms (σ' := (1, [some (vR a0)], [vR a0], (G0, M))) hc 1 rfl ?_
  refine Rn_getI hc rfl h0 (by decide) (by decide) ?_
  show Rn rom (d + 0) 65 (4, [some (vR a0)], [vI (M a0 3)], (G0, M)) out
  refine R_ite e (fun b1 e => ?_) (fun b1 e => ?_)
  · refine Rn_ifT (tgt := 12) hc rfl rfl (by decide) b1 ?_
    refine Rn_ms (σ' := (13, [some (vR a0)], [vI 0], (G0, M))) hc 1 rfl ?_
    cases e
    exact R_end (Rn_iret hc rfl rfl (xretI rfl rfl)) hK
  · refine Rn_ifF hc rfl rfl (by decide) b1 ?_
    refine Rn_ms (σ' := (13, [some (vR a0)], [vI 12], (G0, M))) hc 2 rfl ?_
    cases e
    exact R_end (Rn_iret hc rfl rfl (xretI rfl rfl)) hK
/-- PedalLayers$Pedal.layerAt -/
def f_57 (a0 : Nat) (a1 : Int) : Nat :=
  if wr a1 < 0 then
    0
  else
    if 6 ≤ wr a1 then
      0
    else
      (a0 + 6 + 3 * ((wr a1).toNat))
theorem t_57 {rom : xRom} {d : Nat} {M : xM} {a0 : Nat} {a1 : Int} (h0 : Tg a0 = 7) {r : Nat} {out : Option xV × xH} (e : f_57 a0 a1 = r) (hK : eR M out r) : Rn rom (d + 0) 57 (0, [some (vR a0), some (vI a1)], [], (G0, M)) out := by
  have hc : xkall.getD 57 [] = xk_57 := rfl
  unfold f_57 at e
  refine Rn_ms (σ' := (1, [some (vR a0), some (vI a1)], [vI a1], (G0, M))) hc 1 rfl ?_
  refine R_ite e (fun b1 e => ?_) (fun b1 e => ?_)
  · refine Rn_ifT (tgt := 22) hc rfl rfl (by decide) b1 ?_
    refine Rn_ms (σ' := (23, [some (vR a0), some (vI a1)], [vR 0], (G0, M))) hc 1 rfl ?_
    cases e
    exact R_end (Rn_aret hc rfl rfl rfl rfl) hK
  · refine Rn_ifF hc rfl rfl (by decide) b1 ?_
    refine Rn_ms (σ' := (6, [some (vR a0), some (vI a1)], [vR a0, vI a1], (G0, M))) hc 2 rfl ?_
    refine Rn_getR hc rfl h0 (by decide) rfl (gP7_0_1 h0) ?_
    show Rn rom (d + 0) 57 (9, [some (vR a0), some (vI a1)], [vR (a0 + 2), vI a1], (G0, M)) out
    refine Rn_alen hc rfl rfl (gT7_2 h0) (by decide) (gZ7_2 h0) ?_
    show Rn rom (d + 0) 57 (10, [some (vR a0), some (vI a1)], [vI 6, vI a1], (G0, M)) out
    refine R_ite e (fun b2 e => ?_) (fun b2 e => ?_)
    · refine Rn_icT (tgt := 22) hc rfl rfl (by decide) b2 ?_
      refine Rn_ms (σ' := (23, [some (vR a0), some (vI a1)], [vR 0], (G0, M))) hc 1 rfl ?_
      cases e
      exact R_end (Rn_aret hc rfl rfl rfl rfl) hK
    · refine Rn_icF hc rfl rfl (by decide) b2 ?_
      refine Rn_ms (σ' := (14, [some (vR a0), some (vI a1)], [vR a0], (G0, M))) hc 1 rfl ?_
      refine Rn_getR hc rfl h0 (by decide) rfl (gP7_0_1 h0) ?_
      refine Rn_ms (σ' := (18, [some (vR a0), some (vI a1)], [vI a1, vR (a0 + 2)], (G0, M))) hc 1 rfl ?_
      refine Rn_aald' (gE7 h0 _ (by omega)) hc rfl rfl (Or.inr (gT7_2 h0)) (gZ7_2 h0) (by omega) rfl ?_
      refine Rn_ms (σ' := (23, [some (vR a0), some (vI a1)], [vR (a0 + 6 + 3 * ((wr a1).toNat))], (G0, M))) hc 1 rfl ?_
      cases e
      exact R_end (Rn_aret hc rfl rfl rfl rfl) hK
/-- PedalLayers$Pedal.layerOnLoop -/
def f_58 (M : xM) (a0 : Nat) (a1 : Int) : Nat :=
  if wr (M a0 5) ≤ wr a1 then
    0
  else
    (f_57 a0 a1)
theorem t_58 {rom : xRom} {d : Nat} {M : xM} {a0 : Nat} {a1 : Int} (h0 : Tg a0 = 7) {r : Nat} {out : Option xV × xH} (e : f_58 M a0 a1 = r) (hK : eR M out r) : Rn rom (d + 1) 58 (0, [some (vR a0), some (vI a1)], [], (G0, M)) out := by
  have hc : xkall.getD 58 [] = xk_58 := rfl
  unfold f_58 at e
  refine Rn_ms (σ' := (2, [some (vR a0), some (vI a1)], [vR a0, vI a1], (G0, M))) hc 2 rfl ?_
  refine Rn_getI hc rfl h0 (by decide) (by decide) ?_
  show Rn rom (d + 1) 58 (5, [some (vR a0), some (vI a1)], [vI (M a0 5), vI a1], (G0, M)) out
  refine R_ite e (fun b1 e => ?_) (fun b1 e => ?_)
  · refine Rn_icT (tgt := 16) hc rfl rfl (by decide) b1 ?_
    refine Rn_ms (σ' := (17, [some (vR a0), some (vI a1)], [vR 0], (G0, M))) hc 1 rfl ?_
    cases e
    exact R_end (Rn_aret hc rfl rfl rfl rfl) hK
  · refine Rn_icF hc rfl rfl (by decide) b1 ?_
    refine Rn_ms (σ' := (10, [some (vR a0), some (vI a1)], [vI a1, vR a0], (G0, M))) hc 2 rfl ?_
    refine Rn_cv hc rfl rfl (by decide) (ii := xi_57) rfl rfl rfl (h0 : Tg _ = 7) (by decide) rfl (le := [some (vR a0), some (vI a1)]) rfl (v := some (vR (f_57 a0 a1))) (M' := M) (t_57 h0 (d := d + 0) rfl rfl) ?_
    refine Rn_ms (σ' := (17, [some (vR a0), some (vI a1)], [vR (f_57 a0 a1)], (G0, M))) hc 1 rfl ?_
    cases e
    exact R_end (Rn_aret hc rfl rfl rfl rfl) hK
/-- PedalLayers$Pedal.soundingLayer -/
def f_66 (M : xM) (a0 : Nat) (a1 : Int) : Option (Nat) :=
  if (f_58 M a0 a1) = 0 then
    some (0)
  else
    gd (Tg (f_58 M a0 a1) = 3) (
    if wr (M (f_58 M a0 a1) 1) = 0 then
      some (f_58 M a0 a1)
    else
      some (0)
    )
theorem t_66 {rom : xRom} {d : Nat} {M : xM} {a0 : Nat} {a1 : Int} (h0 : Tg a0 = 7) {r : Nat} {out : Option xV × xH} (e : f_66 M a0 a1 = some r) (hK : eR M out r) : Rn rom (d + 2) 66 (0, [some (vR a0), some (vI a1), none], [], (G0, M)) out := by
  have hc : xkall.getD 66 [] = xk_66 := rfl
  unfold f_66 at e
  refine Rn_ms (σ' := (2, [some (vR a0), some (vI a1), none], [vI a1, vR a0], (G0, M))) hc 2 rfl ?_
  refine Rn_cv hc rfl rfl (by decide) (ii := xi_58) rfl rfl rfl (h0 : Tg _ = 7) (by decide) rfl (le := [some (vR a0), some (vI a1)]) rfl (v := some (vR (f_58 M a0 a1))) (M' := M) (t_58 h0 (d := d + 0) rfl rfl) ?_
  refine Rn_ms (σ' := (7, [some (vR a0), some (vI a1), some (vR (f_58 M a0 a1))], [vR (f_58 M a0 a1)], (G0, M))) hc 2 rfl ?_
  refine R_ite e (fun b1 e => ?_) (fun b1 e => ?_)
  · refine Rn_nuT (tgt := 17) hc rfl rfl (by decide) b1 ?_
    refine Rn_ms (σ' := (22, [some (vR a0), some (vI a1), some (vR (f_58 M a0 a1))], [vR 0], (G0, M))) hc 2 rfl ?_
    cases e
    exact R_end (Rn_aret hc rfl rfl rfl rfl) hK
  · refine Rn_nuF hc rfl rfl (by decide) b1 ?_
    refine Rn_ms (σ' := (11, [some (vR a0), some (vI a1), some (vR (f_58 M a0 a1))], [vR (f_58 M a0 a1)], (G0, M))) hc 1 rfl ?_
    refine R_gd e (fun g2 e => ?_)
    refine Rn_getI hc rfl g2 (by decide) (by decide) ?_
    show Rn rom (d + 2) 66 (14, [some (vR a0), some (vI a1), some (vR (f_58 M a0 a1))], [vI (M (f_58 M a0 a1) 1)], (G0, M)) out
    refine R_ite e (fun b3 e => ?_) (fun b3 e => ?_)
    · refine Rn_ifT (tgt := 21) hc rfl rfl (by decide) b3 ?_
      refine Rn_ms (σ' := (22, [some (vR a0), some (vI a1), some (vR (f_58 M a0 a1))], [vR (f_58 M a0 a1)], (G0, M))) hc 1 rfl ?_
      cases e
      exact R_end (Rn_aret hc rfl rfl rfl rfl) hK
    · refine Rn_ifF hc rfl rfl (by decide) b3 ?_
      refine Rn_ms (σ' := (22, [some (vR a0), some (vI a1), some (vR (f_58 M a0 a1))], [vR 0], (G0, M))) hc 2 rfl ?_
      cases e
      exact R_end (Rn_aret hc rfl rfl rfl rfl) hK
/-- PedalLayers$Notes.cells -/
def f_29 (M : xM) (a0 : Nat) : Int :=
  (M a0 1)
theorem t_29 {rom : xRom} {d : Nat} {M : xM} {a0 : Nat} (h0 : Tg a0 = 4) {r : Int} {out : Option xV × xH} (e : f_29 M a0 = r) (hK : eI M out r) : Rn rom (d + 0) 29 (0, [some (vR a0)], [], (G0, M)) out := by
  have hc : xkall.getD 29 [] = xk_29 := rfl
  unfold f_29 at e
  refine Rn_ms (σ' := (1, [some (vR a0)], [vR a0], (G0, M))) hc 1 rfl ?_
  refine Rn_getI hc rfl h0 (by decide) (by decide) ?_
  show Rn rom (d + 0) 29 (4, [some (vR a0)], [vI (M a0 1)], (G0, M)) out
  cases e
  exact R_end (Rn_iret hc rfl rfl (xretI rfl rfl)) hK
/-- PedalLayers.rest -/
def f_134 (a0 : Int) (a1 : Int) : Int :=
  if wr a1 ≤ 0 then
    0
  else
    ((wr a0).tmod (wr a1))
theorem t_134 {rom : xRom} {d : Nat} {M : xM} {a0 : Int} {a1 : Int} {r : Int} {out : Option xV × xH} (e : f_134 a0 a1 = r) (hK : eI M out r) : Rn rom (d + 0) 134 (0, [some (vI a0), some (vI a1)], [], (G0, M)) out := by
  have hc : xkall.getD 134 [] = xk_134 := rfl
  unfold f_134 at e
  refine Rn_ms (σ' := (1, [some (vI a0), some (vI a1)], [vI a1], (G0, M))) hc 1 rfl ?_
  refine R_ite e (fun b1 e => ?_) (fun b1 e => ?_)
  · refine Rn_ifT (tgt := 10) hc rfl rfl (by decide) b1 ?_
    refine Rn_ms (σ' := (11, [some (vI a0), some (vI a1)], [vI 0], (G0, M))) hc 1 rfl ?_
    cases e
    exact R_end (Rn_iret hc rfl rfl (xretI rfl rfl)) hK
  · refine Rn_ifF hc rfl rfl (by decide) b1 ?_
    refine Rn_ms (σ' := (6, [some (vI a0), some (vI a1)], [vI a1, vI a0], (G0, M))) hc 2 rfl ?_
    refine Rn_rem hc rfl ⟨rfl, rfl⟩ (z' := (wr a1)) rfl (by omega) ?_
    refine Rn_ms (σ' := (11, [some (vI a0), some (vI a1)], [vI ((wr a0).tmod (wr a1))], (G0, M))) hc 1 rfl ?_
    cases e
    exact R_end (Rn_iret hc rfl rfl (xretI rfl rfl)) hK
/-- PedalLayers.isKey -/
def f_132 (a0 : Int) : Int :=
  if wr a0 < 0 then
    0
  else
    if 36 ≤ wr a0 then
      0
    else
      1
theorem t_132 {rom : xRom} {d : Nat} {M : xM} {a0 : Int} {r : Int} {out : Option xV × xH} (e : f_132 a0 = r) (hK : eI M out r) : Rn rom (d + 0) 132 (0, [some (vI a0)], [], (G0, M)) out := by
  have hc : xkall.getD 132 [] = xk_132 := rfl
  unfold f_132 at e
  refine Rn_ms (σ' := (1, [some (vI a0)], [vI a0], (G0, M))) hc 1 rfl ?_
  refine R_ite e (fun b1 e => ?_) (fun b1 e => ?_)
  · refine Rn_ifT (tgt := 14) hc rfl rfl (by decide) b1 ?_
    refine Rn_ms (σ' := (15, [some (vI a0)], [vI 0], (G0, M))) hc 1 rfl ?_
    cases e
    exact R_end (Rn_iret hc rfl rfl (xretB rfl rfl (by decide))) hK
  · refine Rn_ifF hc rfl rfl (by decide) b1 ?_
    refine Rn_ms (σ' := (7, [some (vI a0)], [vI 36, vI a0], (G0, M))) hc 2 rfl ?_
    refine R_ite e (fun b2 e => ?_) (fun b2 e => ?_)
    · refine Rn_icT (tgt := 14) hc rfl rfl (by decide) b2 ?_
      refine Rn_ms (σ' := (15, [some (vI a0)], [vI 0], (G0, M))) hc 1 rfl ?_
      cases e
      exact R_end (Rn_iret hc rfl rfl (xretB rfl rfl (by decide))) hK
    · refine Rn_icF hc rfl rfl (by decide) b2 ?_
      refine Rn_ms (σ' := (15, [some (vI a0)], [vI 1], (G0, M))) hc 2 rfl ?_
      cases e
      exact R_end (Rn_iret hc rfl rfl (xretB rfl rfl (by decide))) hK
/-- PedalLayers$Notes.at -/
def f_30 (M : xM) (a0 : Nat) (a1 : Int) (a2 : Int) : Int :=
  if wr (f_132 a2) = 0 then
    0
  else
    if wr ((a1 * 36) + a2) < 0 then
      0
    else
      if 1728 ≤ wr ((a1 * 36) + a2) then
        0
      else
        (M (a0 + 1) (wr ((a1 * 36) + a2)).toNat)
theorem t_30 {rom : xRom} {d : Nat} {M : xM} {a0 : Nat} {a1 : Int} {a2 : Int} (h0 : Tg a0 = 4) {r : Int} {out : Option xV × xH} (e : f_30 M a0 a1 a2 = r) (hK : eI M out r) : Rn rom (d + 1) 30 (0, [some (vR a0), some (vI a1), some (vI a2), none], [], (G0, M)) out := by
  have hc : xkall.getD 30 [] = xk_30 := rfl
  unfold f_30 at e
  refine Rn_ms (σ' := (8, [some (vR a0), some (vI a1), some (vI a2), some (vI ((a1 * 36) + a2))], [vI a2], (G0, M))) hc 7 rfl ?_
  refine Rn_cs hc rfl rfl (by decide) (ii := xi_132) rfl rfl rfl (le := [some (vI a2)]) rfl (v := some (vI (f_132 a2))) (M' := M) (t_132  (d := d + 0) rfl rfl) ?_
  show Rn rom (d + 1) 30 (11, [some (vR a0), some (vI a1), some (vI a2), some (vI ((a1 * 36) + a2))], [vI (f_132 a2)], (G0, M)) out
  refine R_ite e (fun b1 e => ?_) (fun b1 e => ?_)
  · refine Rn_ifT (tgt := 36) hc rfl rfl (by decide) b1 ?_
    refine Rn_ms (σ' := (37, [some (vR a0), some (vI a1), some (vI a2), some (vI ((a1 * 36) + a2))], [vI 0], (G0, M))) hc 1 rfl ?_
    cases e
    exact R_end (Rn_iret hc rfl rfl (xretI rfl rfl)) hK
  · refine Rn_ifF hc rfl rfl (by decide) b1 ?_
    refine Rn_ms (σ' := (15, [some (vR a0), some (vI a1), some (vI a2), some (vI ((a1 * 36) + a2))], [vI ((a1 * 36) + a2)], (G0, M))) hc 1 rfl ?_
    refine R_ite e (fun b2 e => ?_) (fun b2 e => ?_)
    · refine Rn_ifT (tgt := 36) hc rfl rfl (by decide) b2 ?_
      refine Rn_ms (σ' := (37, [some (vR a0), some (vI a1), some (vI a2), some (vI ((a1 * 36) + a2))], [vI 0], (G0, M))) hc 1 rfl ?_
      cases e
      exact R_end (Rn_iret hc rfl rfl (xretI rfl rfl)) hK
    · refine Rn_ifF hc rfl rfl (by decide) b2 ?_
      refine Rn_ms (σ' := (20, [some (vR a0), some (vI a1), some (vI a2), some (vI ((a1 * 36) + a2))], [vR a0, vI ((a1 * 36) + a2)], (G0, M))) hc 2 rfl ?_
      refine Rn_getR hc rfl h0 (by decide) rfl (gP4_0_0 h0) ?_
      show Rn rom (d + 1) 30 (23, [some (vR a0), some (vI a1), some (vI a2), some (vI ((a1 * 36) + a2))], [vR (a0 + 1), vI ((a1 * 36) + a2)], (G0, M)) out
      refine Rn_alen hc rfl rfl (gT4_1 h0) (by decide) (gZ4_1 h0) ?_
      show Rn rom (d + 1) 30 (24, [some (vR a0), some (vI a1), some (vI a2), some (vI ((a1 * 36) + a2))], [vI 1728, vI ((a1 * 36) + a2)], (G0, M)) out
      refine R_ite e (fun b3 e => ?_) (fun b3 e => ?_)
      · refine Rn_icT (tgt := 36) hc rfl rfl (by decide) b3 ?_
        refine Rn_ms (σ' := (37, [some (vR a0), some (vI a1), some (vI a2), some (vI ((a1 * 36) + a2))], [vI 0], (G0, M))) hc 1 rfl ?_
        cases e
        exact R_end (Rn_iret hc rfl rfl (xretI rfl rfl)) hK
      · refine Rn_icF hc rfl rfl (by decide) b3 ?_
        refine Rn_ms (σ' := (28, [some (vR a0), some (vI a1), some (vI a2), some (vI ((a1 * 36) + a2))], [vR a0], (G0, M))) hc 1 rfl ?_
        refine Rn_getR hc rfl h0 (by decide) rfl (gP4_0_0 h0) ?_
        refine Rn_ms (σ' := (32, [some (vR a0), some (vI a1), some (vI a2), some (vI ((a1 * 36) + a2))], [vI ((a1 * 36) + a2), vR (a0 + 1)], (G0, M))) hc 1 rfl ?_
        refine Rn_iald hc rfl rfl (gT4_1 h0) (gZ4_1 h0) (by omega) rfl ?_
        refine Rn_ms (σ' := (37, [some (vR a0), some (vI a1), some (vI a2), some (vI ((a1 * 36) + a2))], [vI (M (a0 + 1) (wr ((a1 * 36) + a2)).toNat)], (G0, M))) hc 1 rfl ?_
        cases e
        exact R_end (Rn_iret hc rfl rfl (xretI rfl rfl)) hK
def f_1_L75b (a1 : Nat) (c2 : Int) (c3 : Int) (c4 : Int) (c5 : Int) (r6 : Nat) (c7 : Int) (v8 : Int) (M : xM) : Option ((Int × xM) ⊕ ((Int × xM) ⊕ (xM))) :=
  if 36 ≤ wr v8 then
    some (.inr (.inl ((c5 + 1), M)))
  else
    gd (0 ≤ wr v8 ∧ wr v8 < 36) (
    gd (0 ≤ wr v8 ∧ wr v8 < 36) (
    bnd (xset M 178 (wr v8).toNat ((M 178 (wr v8).toNat) + (f_30 M (r6 + 1) c7 (v8 + c4)))) (fun M9 =>
    some (.inl ((v8 + 1), M9))
    )))
theorem t_1_L75b {rom : xRom} {d : Nat} {a1 : Nat} {c2 : Int} {c3 : Int} {c4 : Int} {c5 : Int} {r6 : Nat} {c7 : Int} {v8 : Int} {M : xM} (h1 : Tg a1 = 7) (hr6 : Tg r6 = 3) {r : (Int × xM) ⊕ ((Int × xM) ⊕ (xM))} {out : Option xV × xH} (e : f_1_L75b a1 c2 c3 c4 c5 r6 c7 v8 M = some r) (hK : ((Sum.elim (fun s => Rn rom (d + 3) 1 (75, [some (vR 177), some (vR a1), some (vI c2), some (vI c3), some (vI c4), some (vI c5), some (vR r6), some (vI c7), some (vI s.1)], [], (G0, s.2)) out) ((Sum.elim (fun s => Rn rom (d + 3) 1 (36, [some (vR 177), some (vR a1), some (vI c2), some (vI c3), some (vI c4), some (vI s.1), none, none, none], [], (G0, s.2)) out) (eVW out))))) r) : Rn rom (d + 3) 1 (75, [some (vR 177), some (vR a1), some (vI c2), some (vI c3), some (vI c4), some (vI c5), some (vR r6), some (vI c7), some (vI v8)], [], (G0, M)) out := by
  have hc : xkall.getD 1 [] = xk_1 := rfl
  unfold f_1_L75b at e
  refine Rn_ms (σ' := (78, [some (vR 177), some (vR a1), some (vI c2), some (vI c3), some (vI c4), some (vI c5), some (vR r6), some (vI c7), some (vI v8)], [vR 177, vI v8], (G0, M))) hc 2 rfl ?_
  refine Rn_getR hc rfl tgc_177 (by decide) rfl prc_177_0 ?_
  show Rn rom (d + 3) 1 (81, [some (vR 177), some (vR a1), some (vI c2), some (vI c3), some (vI c4), some (vI c5), some (vR r6), some (vI c7), some (vI v8)], [vR 178, vI v8], (G0, M)) out
  refine Rn_alen hc rfl rfl tgc_178 (by decide) zsc_178 ?_
  show Rn rom (d + 3) 1 (82, [some (vR 177), some (vR a1), some (vI c2), some (vI c3), some (vI c4), some (vI c5), some (vR r6), some (vI c7), some (vI v8)], [vI 36, vI v8], (G0, M)) out
  refine R_ite e (fun b6 e => ?_) (fun b6 e => ?_)
  · refine Rn_icT (tgt := 116) hc rfl rfl (by decide) b6 ?_
    refine Rn_ms (σ' := (36, [some (vR 177), some (vR a1), some (vI c2), some (vI c3), some (vI c4), some (vI (c5 + 1)), some (vR r6), some (vI c7), some (vI v8)], [], (G0, M))) hc 2 rfl ?_
    cases e
    exact Rn_weak (xle_s (xle_s (xle_s (xle_s (xle_s (xle_s (xle_n (xle_n (xle_n xle_0))))))))) hK
  · refine Rn_icF hc rfl rfl (by decide) b6 ?_
    refine Rn_ms (σ' := (86, [some (vR 177), some (vR a1), some (vI c2), some (vI c3), some (vI c4), some (vI c5), some (vR r6), some (vI c7), some (vI v8)], [vR 177], (G0, M))) hc 1 rfl ?_
    refine Rn_getR hc rfl tgc_177 (by decide) rfl prc_177_0 ?_
    refine Rn_ms (σ' := (92, [some (vR 177), some (vR a1), some (vI c2), some (vI c3), some (vI c4), some (vI c5), some (vR r6), some (vI c7), some (vI v8)], [vI v8, vR 178, vI v8, vR 178], (G0, M))) hc 2 rfl ?_
    refine R_gd e (fun g7 e => ?_)
    refine Rn_iald hc rfl rfl tgc_178 zsc_178 g7 rfl ?_
    refine Rn_ms (σ' := (95, [some (vR 177), some (vR a1), some (vI c2), some (vI c3), some (vI c4), some (vI c5), some (vR r6), some (vI c7), some (vI v8)], [vR r6, vI (M 178 (wr v8).toNat), vI v8, vR 178], (G0, M))) hc 1 rfl ?_
    refine Rn_getR hc rfl hr6 (by decide) rfl (gP3_0_0 hr6) ?_
    refine Rn_ms (σ' := (105, [some (vR 177), some (vR a1), some (vI c2), some (vI c3), some (vI c4), some (vI c5), some (vR r6), some (vI c7), some (vI v8)], [vI (v8 + c4), vI c7, vR (r6 + 1), vI (M 178 (wr v8).toNat), vI v8, vR 178], (G0, M))) hc 4 rfl ?_
    refine Rn_cv hc rfl rfl (by decide) (ii := xi_30) rfl rfl rfl ((gT3_1 hr6) : Tg _ = 4) (by decide) rfl (le := [some (vR (r6 + 1)), some (vI c7), some (vI (v8 + c4)), none]) rfl (v := some (vI (f_30 M (r6 + 1) c7 (v8 + c4)))) (M' := M) (t_30 (gT3_1 hr6) (d := d + 1) rfl rfl) ?_
    refine Rn_ms (σ' := (109, [some (vR 177), some (vR a1), some (vI c2), some (vI c3), some (vI c4), some (vI c5), some (vR r6), some (vI c7), some (vI v8)], [vI ((M 178 (wr v8).toNat) + (f_30 M (r6 + 1) c7 (v8 + c4))), vI v8, vR 178], (G0, M))) hc 1 rfl ?_
    refine R_gd e (fun g8 e => ?_)
    refine R_bnd e (fun M9 hM9 e => ?_)
    refine Rn_iast' hM9 hc rfl rfl tgc_178 zsc_178 g8 rfl ?_
    refine Rn_ms (σ' := (75, [some (vR 177), some (vR a1), some (vI c2), some (vI c3), some (vI c4), some (vI c5), some (vR r6), some (vI c7), some (vI (v8 + 1))], [], (G0, M9))) hc 2 rfl ?_
    cases e
    exact Rn_weak (xle_s (xle_s (xle_s (xle_s (xle_s (xle_s (xle_s (xle_s (xle_s xle_0))))))))) hK
def f_1_L75 (a1 : Nat) (c2 : Int) (c3 : Int) (c4 : Int) (c5 : Int) (r6 : Nat) (c7 : Int) (s : Int × xM) : Option ((Int × xM) ⊕ (xM)) := loop NF (fun s => f_1_L75b a1 c2 c3 c4 c5 r6 c7 s.1 s.2) s
theorem t_1_L75 {rom : xRom} {d : Nat} {a1 : Nat} {c2 : Int} {c3 : Int} {c4 : Int} {c5 : Int} {r6 : Nat} {c7 : Int} (h1 : Tg a1 = 7) (hr6 : Tg r6 = 3) {s : Int × xM} {r : (Int × xM) ⊕ (xM)} {out : Option xV × xH} (e : f_1_L75 a1 c2 c3 c4 c5 r6 c7 s = some r) (hK : ((Sum.elim (fun s => Rn rom (d + 3) 1 (36, [some (vR 177), some (vR a1), some (vI c2), some (vI c3), some (vI c4), some (vI s.1), none, none, none], [], (G0, s.2)) out) (eVW out))) r) : Rn rom (d + 3) 1 (75, [some (vR 177), some (vR a1), some (vI c2), some (vI c3), some (vI c4), some (vI c5), some (vR r6), some (vI c7), some (vI s.1)], [], (G0, s.2)) out := by
  unfold f_1_L75 at e
  revert e hK
  exact R_loop (b := fun s => f_1_L75b a1 c2 c3 c4 c5 r6 c7 s.1 s.2) (G := fun s => Rn rom (d + 3) 1 (75, [some (vR 177), some (vR a1), some (vI c2), some (vI c3), some (vI c4), some (vI c5), some (vR r6), some (vI c7), some (vI s.1)], [], (G0, s.2)) out) (K := (Sum.elim (fun s => Rn rom (d + 3) 1 (36, [some (vR 177), some (vR a1), some (vI c2), some (vI c3), some (vI c4), some (vI s.1), none, none, none], [], (G0, s.2)) out) (eVW out))) (fun s r e hK => t_1_L75b h1 hr6 e hK) NF s r
def f_1_L36b (a1 : Nat) (c2 : Int) (c3 : Int) (c4 : Int) (v5 : Int) (M : xM) : Option ((Int × xM) ⊕ (xM)) :=
  if wr c2 ≤ wr v5 then
    some (.inr (M))
  else
    (f_66 M a1 v5).bind (fun k3 =>
    if k3 = 0 then
      some (.inl ((v5 + 1), M))
    else
      gd (Tg k3 = 3) (
      f_1_L75 a1 c2 c3 c4 v5 k3 (f_134 c3 (f_29 M (k3 + 1))) (0, M)
      )
    )
theorem t_1_L36b {rom : xRom} {d : Nat} {a1 : Nat} {c2 : Int} {c3 : Int} {c4 : Int} {v5 : Int} {M : xM} (h1 : Tg a1 = 7) {r : (Int × xM) ⊕ (xM)} {out : Option xV × xH} (e : f_1_L36b a1 c2 c3 c4 v5 M = some r) (hK : ((Sum.elim (fun s => Rn rom (d + 3) 1 (36, [some (vR 177), some (vR a1), some (vI c2), some (vI c3), some (vI c4), some (vI s.1), none, none, none], [], (G0, s.2)) out) (eVW out))) r) : Rn rom (d + 3) 1 (36, [some (vR 177), some (vR a1), some (vI c2), some (vI c3), some (vI c4), some (vI v5), none, none, none], [], (G0, M)) out := by
  have hc : xkall.getD 1 [] = xk_1 := rfl
  unfold f_1_L36b at e
  refine Rn_ms (σ' := (39, [some (vR 177), some (vR a1), some (vI c2), some (vI c3), some (vI c4), some (vI v5), none, none, none], [vI c2, vI v5], (G0, M))) hc 2 rfl ?_
  refine R_ite e (fun b2 e => ?_) (fun b2 e => ?_)
  · refine Rn_icT (tgt := 122) hc rfl rfl (by decide) b2 ?_
    show Rn rom (d + 3) 1 (122, [some (vR 177), some (vR a1), some (vI c2), some (vI c3), some (vI c4), some (vI v5), none, none, none], [], (G0, M)) out
    cases e
    exact R_end (Rn_vret hc rfl rfl rfl rfl) hK
  · refine Rn_icF hc rfl rfl (by decide) b2 ?_
    refine Rn_ms (σ' := (45, [some (vR 177), some (vR a1), some (vI c2), some (vI c3), some (vI c4), some (vI v5), none, none, none], [vI v5, vR a1], (G0, M))) hc 2 rfl ?_
    refine R_bind e (fun k3 hk3 e => ?_)
    refine Rn_cv hc rfl rfl (by decide) (ii := xi_66) rfl rfl rfl (h1 : Tg _ = 7) (by decide) rfl (le := [some (vR a1), some (vI v5), none]) rfl (v := some (vR k3)) (M' := M) (t_66 h1 (d := d + 0) hk3 rfl) ?_
    refine Rn_ms (σ' := (52, [some (vR 177), some (vR a1), some (vI c2), some (vI c3), some (vI c4), some (vI v5), some (vR k3), none, none], [vR k3], (G0, M))) hc 2 rfl ?_
    refine R_ite e (fun b4 e => ?_) (fun b4 e => ?_)
    · refine Rn_nnF hc rfl rfl (by decide) b4 ?_
      refine Rn_ms (σ' := (36, [some (vR 177), some (vR a1), some (vI c2), some (vI c3), some (vI c4), some (vI (v5 + 1)), some (vR k3), none, none], [], (G0, M))) hc 3 rfl ?_
      cases e
      exact Rn_weak (xle_s (xle_s (xle_s (xle_s (xle_s (xle_s (xle_n (xle_s (xle_s xle_0))))))))) hK
    · refine Rn_nnT (tgt := 58) hc rfl rfl (by decide) b4 ?_
      refine Rn_ms (σ' := (61, [some (vR 177), some (vR a1), some (vI c2), some (vI c3), some (vI c4), some (vI v5), some (vR k3), none, none], [vR k3, vI c3], (G0, M))) hc 2 rfl ?_
      refine R_gd e (fun g5 e => ?_)
      refine Rn_getR hc rfl g5 (by decide) rfl (gP3_0_0 g5) ?_
      show Rn rom (d + 3) 1 (64, [some (vR 177), some (vR a1), some (vI c2), some (vI c3), some (vI c4), some (vI v5), some (vR k3), none, none], [vR (k3 + 1), vI c3], (G0, M)) out
      refine Rn_cv hc rfl rfl (by decide) (ii := xi_29) rfl rfl rfl ((gT3_1 g5) : Tg _ = 4) (by decide) rfl (le := [some (vR (k3 + 1))]) rfl (v := some (vI (f_29 M (k3 + 1)))) (M' := M) (t_29 (gT3_1 g5) (d := d + 2) rfl rfl) ?_
      show Rn rom (d + 3) 1 (67, [some (vR 177), some (vR a1), some (vI c2), some (vI c3), some (vI c4), some (vI v5), some (vR k3), none, none], [vI (f_29 M (k3 + 1)), vI c3], (G0, M)) out
      refine Rn_cs hc rfl rfl (by decide) (ii := xi_134) rfl rfl rfl (le := [some (vI c3), some (vI (f_29 M (k3 + 1)))]) rfl (v := some (vI (f_134 c3 (f_29 M (k3 + 1))))) (M' := M) (t_134  (d := d + 2) rfl rfl) ?_
      refine Rn_ms (σ' := (75, [some (vR 177), some (vR a1), some (vI c2), some (vI c3), some (vI c4), some (vI v5), some (vR k3), some (vI (f_134 c3 (f_29 M (k3 + 1)))), some (vI 0)], [], (G0, M))) hc 3 rfl ?_
      exact Rn_weak (xle_s (xle_s (xle_s (xle_s (xle_s (xle_s (xle_s (xle_s (xle_s xle_0))))))))) (t_1_L75 h1 g5 e hK)
def f_1_L36 (a1 : Nat) (c2 : Int) (c3 : Int) (c4 : Int) (s : Int × xM) : Option (xM) := loop NF (fun s => f_1_L36b a1 c2 c3 c4 s.1 s.2) s
theorem t_1_L36 {rom : xRom} {d : Nat} {a1 : Nat} {c2 : Int} {c3 : Int} {c4 : Int} (h1 : Tg a1 = 7) {s : Int × xM} {r : xM} {out : Option xV × xH} (e : f_1_L36 a1 c2 c3 c4 s = some r) (hK : (eVW out) r) : Rn rom (d + 3) 1 (36, [some (vR 177), some (vR a1), some (vI c2), some (vI c3), some (vI c4), some (vI s.1), none, none, none], [], (G0, s.2)) out := by
  unfold f_1_L36 at e
  revert e hK
  exact R_loop (b := fun s => f_1_L36b a1 c2 c3 c4 s.1 s.2) (G := fun s => Rn rom (d + 3) 1 (36, [some (vR 177), some (vR a1), some (vI c2), some (vI c3), some (vI c4), some (vI s.1), none, none, none], [], (G0, s.2)) out) (K := eVW out) (fun s r e hK => t_1_L36b h1 e hK) NF s r
def f_1_L3b (a1 : Nat) (c2 : Int) (c3 : Int) (v4 : Int) (M : xM) : Option ((Int × xM) ⊕ (xM)) :=
  if 36 ≤ wr v4 then
    (f_1_L36 a1 c2 c3 (f_65 M a1) (0, M)).bind (fun o => some (.inr (o)))
  else
    gd (0 ≤ wr v4 ∧ wr v4 < 36) (
    bnd (xset M 178 (wr v4).toNat 0) (fun M11 =>
    some (.inl ((v4 + 1), M11))
    ))
theorem t_1_L3b {rom : xRom} {d : Nat} {a1 : Nat} {c2 : Int} {c3 : Int} {v4 : Int} {M : xM} (h1 : Tg a1 = 7) {r : (Int × xM) ⊕ (xM)} {out : Option xV × xH} (e : f_1_L3b a1 c2 c3 v4 M = some r) (hK : ((Sum.elim (fun s => Rn rom (d + 3) 1 (3, [some (vR 177), some (vR a1), some (vI c2), some (vI c3), some (vI s.1), none, none, none, none], [], (G0, s.2)) out) (eVW out))) r) : Rn rom (d + 3) 1 (3, [some (vR 177), some (vR a1), some (vI c2), some (vI c3), some (vI v4), none, none, none, none], [], (G0, M)) out := by
  have hc : xkall.getD 1 [] = xk_1 := rfl
  unfold f_1_L3b at e
  refine Rn_ms (σ' := (6, [some (vR 177), some (vR a1), some (vI c2), some (vI c3), some (vI v4), none, none, none, none], [vR 177, vI v4], (G0, M))) hc 2 rfl ?_
  refine Rn_getR hc rfl tgc_177 (by decide) rfl prc_177_0 ?_
  show Rn rom (d + 3) 1 (9, [some (vR 177), some (vR a1), some (vI c2), some (vI c3), some (vI v4), none, none, none, none], [vR 178, vI v4], (G0, M)) out
  refine Rn_alen hc rfl rfl tgc_178 (by decide) zsc_178 ?_
  show Rn rom (d + 3) 1 (10, [some (vR 177), some (vR a1), some (vI c2), some (vI c3), some (vI v4), none, none, none, none], [vI 36, vI v4], (G0, M)) out
  refine R_ite e (fun b1 e => ?_) (fun b1 e => ?_)
  · refine Rn_icT (tgt := 27) hc rfl rfl (by decide) b1 ?_
    refine Rn_ms (σ' := (28, [some (vR 177), some (vR a1), some (vI c2), some (vI c3), some (vI v4), none, none, none, none], [vR a1], (G0, M))) hc 1 rfl ?_
    refine Rn_cv hc rfl rfl (by decide) (ii := xi_65) rfl rfl rfl (h1 : Tg _ = 7) (by decide) rfl (le := [some (vR a1)]) rfl (v := some (vI (f_65 M a1))) (M' := M) (t_65 h1 (d := d + 2) rfl rfl) ?_
    refine Rn_ms (σ' := (36, [some (vR 177), some (vR a1), some (vI c2), some (vI c3), some (vI (f_65 M a1)), some (vI 0), none, none, none], [], (G0, M))) hc 3 rfl ?_
    refine R_bind e (fun o ho e => ?_)
    cases e
    exact Rn_weak (xle_s (xle_s (xle_s (xle_s (xle_s (xle_s (xle_s (xle_s (xle_s xle_0))))))))) (t_1_L36 h1 ho hK)
  · refine Rn_icF hc rfl rfl (by decide) b1 ?_
    refine Rn_ms (σ' := (14, [some (vR 177), some (vR a1), some (vI c2), some (vI c3), some (vI v4), none, none, none, none], [vR 177], (G0, M))) hc 1 rfl ?_
    refine Rn_getR hc rfl tgc_177 (by decide) rfl prc_177_0 ?_
    refine Rn_ms (σ' := (20, [some (vR 177), some (vR a1), some (vI c2), some (vI c3), some (vI v4), none, none, none, none], [vI 0, vI v4, vR 178], (G0, M))) hc 2 rfl ?_
    refine R_gd e (fun g10 e => ?_)
    refine R_bnd e (fun M11 hM11 e => ?_)
    refine Rn_iast' hM11 hc rfl rfl tgc_178 zsc_178 g10 rfl ?_
    refine Rn_ms (σ' := (3, [some (vR 177), some (vR a1), some (vI c2), some (vI c3), some (vI (v4 + 1)), none, none, none, none], [], (G0, M11))) hc 2 rfl ?_
    cases e
    exact Rn_weak (xle_s (xle_s (xle_s (xle_s (xle_s (xle_s (xle_s (xle_s (xle_s xle_0))))))))) hK
def f_1_L3 (a1 : Nat) (c2 : Int) (c3 : Int) (s : Int × xM) : Option (xM) := loop NF (fun s => f_1_L3b a1 c2 c3 s.1 s.2) s
theorem t_1_L3 {rom : xRom} {d : Nat} {a1 : Nat} {c2 : Int} {c3 : Int} (h1 : Tg a1 = 7) {s : Int × xM} {r : xM} {out : Option xV × xH} (e : f_1_L3 a1 c2 c3 s = some r) (hK : (eVW out) r) : Rn rom (d + 3) 1 (3, [some (vR 177), some (vR a1), some (vI c2), some (vI c3), some (vI s.1), none, none, none, none], [], (G0, s.2)) out := by
  unfold f_1_L3 at e
  revert e hK
  exact R_loop (b := fun s => f_1_L3b a1 c2 c3 s.1 s.2) (G := fun s => Rn rom (d + 3) 1 (3, [some (vR 177), some (vR a1), some (vI c2), some (vI c3), some (vI s.1), none, none, none, none], [], (G0, s.2)) out) (K := eVW out) (fun s r e hK => t_1_L3b h1 e hK) NF s r
/-- PedalLayers$Ear.listen -/
def f_1 (M : xM) (a1 : Nat) (a2 : Int) (a3 : Int) : Option (xM) :=
  f_1_L3 a1 a2 a3 (0, M)
theorem t_1 {rom : xRom} {d : Nat} {M : xM} {a1 : Nat} {a2 : Int} {a3 : Int} (h1 : Tg a1 = 7) {r : xM} {out : Option xV × xH} (e : f_1 M a1 a2 a3 = some r) (hK : eVW out r) : Rn rom (d + 3) 1 (0, [some (vR 177), some (vR a1), some (vI a2), some (vI a3), none, none, none, none, none], [], (G0, M)) out := by
  have hc : xkall.getD 1 [] = xk_1 := rfl
  unfold f_1 at e
  refine Rn_ms (σ' := (3, [some (vR 177), some (vR a1), some (vI a2), some (vI a3), some (vI 0), none, none, none, none], [], (G0, M))) hc 2 rfl ?_
  exact Rn_weak (xle_s (xle_s (xle_s (xle_s (xle_s (xle_s (xle_s (xle_s (xle_s xle_0))))))))) (t_1_L3 h1 e hK)
/-- PedalLayers$Ear.ringOf -/
def f_2 (M : xM) (a1 : Int) : Int :=
  if wr a1 < 0 then
    0
  else
    if 36 ≤ wr a1 then
      0
    else
      (M 178 (wr a1).toNat)
theorem t_2 {rom : xRom} {d : Nat} {M : xM} {a1 : Int} {r : Int} {out : Option xV × xH} (e : f_2 M a1 = r) (hK : eI M out r) : Rn rom (d + 0) 2 (0, [some (vR 177), some (vI a1)], [], (G0, M)) out := by
  have hc : xkall.getD 2 [] = xk_2 := rfl
  unfold f_2 at e
  refine Rn_ms (σ' := (1, [some (vR 177), some (vI a1)], [vI a1], (G0, M))) hc 1 rfl ?_
  refine R_ite e (fun b1 e => ?_) (fun b1 e => ?_)
  · refine Rn_ifT (tgt := 22) hc rfl rfl (by decide) b1 ?_
    refine Rn_ms (σ' := (23, [some (vR 177), some (vI a1)], [vI 0], (G0, M))) hc 1 rfl ?_
    cases e
    exact R_end (Rn_iret hc rfl rfl (xretI rfl rfl)) hK
  · refine Rn_ifF hc rfl rfl (by decide) b1 ?_
    refine Rn_ms (σ' := (6, [some (vR 177), some (vI a1)], [vR 177, vI a1], (G0, M))) hc 2 rfl ?_
    refine Rn_getR hc rfl tgc_177 (by decide) rfl prc_177_0 ?_
    show Rn rom (d + 0) 2 (9, [some (vR 177), some (vI a1)], [vR 178, vI a1], (G0, M)) out
    refine Rn_alen hc rfl rfl tgc_178 (by decide) zsc_178 ?_
    show Rn rom (d + 0) 2 (10, [some (vR 177), some (vI a1)], [vI 36, vI a1], (G0, M)) out
    refine R_ite e (fun b2 e => ?_) (fun b2 e => ?_)
    · refine Rn_icT (tgt := 22) hc rfl rfl (by decide) b2 ?_
      refine Rn_ms (σ' := (23, [some (vR 177), some (vI a1)], [vI 0], (G0, M))) hc 1 rfl ?_
      cases e
      exact R_end (Rn_iret hc rfl rfl (xretI rfl rfl)) hK
    · refine Rn_icF hc rfl rfl (by decide) b2 ?_
      refine Rn_ms (σ' := (14, [some (vR 177), some (vI a1)], [vR 177], (G0, M))) hc 1 rfl ?_
      refine Rn_getR hc rfl tgc_177 (by decide) rfl prc_177_0 ?_
      refine Rn_ms (σ' := (18, [some (vR 177), some (vI a1)], [vI a1, vR 178], (G0, M))) hc 1 rfl ?_
      refine Rn_iald hc rfl rfl tgc_178 zsc_178 (by omega) rfl ?_
      refine Rn_ms (σ' := (23, [some (vR 177), some (vI a1)], [vI (M 178 (wr a1).toNat)], (G0, M))) hc 1 rfl ?_
      cases e
      exact R_end (Rn_iret hc rfl rfl (xretI rfl rfl)) hK
def f_3_L13b (M : xM) (c3 : Int) (v1 : Int) (v4 : Int) : Option ((Int × Int) ⊕ (Int)) :=
  if wr c3 ≤ wr v4 then
    some (.inr (v1))
  else
    gd (0 ≤ wr v4 ∧ wr v4 < 36) (
    if wr (M 178 (wr v4).toNat) ≤ 0 then
      some (.inl (v1, (v4 + 1)))
    else
      some (.inl ((v1 + 1), (v4 + 1)))
    )
theorem t_3_L13b {rom : xRom} {d : Nat} {c3 : Int} {v1 : Int} {v4 : Int} {M : xM} {r : (Int × Int) ⊕ (Int)} {out : Option xV × xH} (e : f_3_L13b M c3 v1 v4 = some r) (hK : ((Sum.elim (fun s => Rn rom (d + 0) 3 (13, [none, some (vI s.1), some (vR 178), some (vI c3), some (vI s.2), none], [], (G0, M)) out) (eI M out))) r) : Rn rom (d + 0) 3 (13, [none, some (vI v1), some (vR 178), some (vI c3), some (vI v4), none], [], (G0, M)) out := by
  have hc : xkall.getD 3 [] = xk_3 := rfl
  unfold f_3_L13b at e
  refine Rn_ms (σ' := (16, [none, some (vI v1), some (vR 178), some (vI c3), some (vI v4), none], [vI c3, vI v4], (G0, M))) hc 2 rfl ?_
  refine R_ite e (fun b1 e => ?_) (fun b1 e => ?_)
  · refine Rn_icT (tgt := 39) hc rfl rfl (by decide) b1 ?_
    refine Rn_ms (σ' := (40, [none, some (vI v1), some (vR 178), some (vI c3), some (vI v4), none], [vI v1], (G0, M))) hc 1 rfl ?_
    cases e
    exact R_end (Rn_iret hc rfl rfl (xretI rfl rfl)) hK
  · refine Rn_icF hc rfl rfl (by decide) b1 ?_
    refine Rn_ms (σ' := (22, [none, some (vI v1), some (vR 178), some (vI c3), some (vI v4), none], [vI v4, vR 178], (G0, M))) hc 2 rfl ?_
    refine R_gd e (fun g2 e => ?_)
    refine Rn_iald hc rfl rfl tgc_178 zsc_178 g2 rfl ?_
    refine Rn_ms (σ' := (27, [none, some (vI v1), some (vR 178), some (vI c3), some (vI v4), some (vI (M 178 (wr v4).toNat))], [vI (M 178 (wr v4).toNat)], (G0, M))) hc 2 rfl ?_
    refine R_ite e (fun b3 e => ?_) (fun b3 e => ?_)
    · refine Rn_ifT (tgt := 33) hc rfl rfl (by decide) b3 ?_
      refine Rn_ms (σ' := (13, [none, some (vI v1), some (vR 178), some (vI c3), some (vI (v4 + 1)), some (vI (M 178 (wr v4).toNat))], [], (G0, M))) hc 2 rfl ?_
      cases e
      exact Rn_weak (xle_s (xle_s (xle_s (xle_s (xle_s (xle_n xle_0)))))) hK
    · refine Rn_ifF hc rfl rfl (by decide) b3 ?_
      refine Rn_ms (σ' := (13, [none, some (vI (v1 + 1)), some (vR 178), some (vI c3), some (vI (v4 + 1)), some (vI (M 178 (wr v4).toNat))], [], (G0, M))) hc 3 rfl ?_
      cases e
      exact Rn_weak (xle_s (xle_s (xle_s (xle_s (xle_s (xle_n xle_0)))))) hK
def f_3_L13 (M : xM) (c3 : Int) (s : Int × Int) : Option (Int) := loop NF (fun s => f_3_L13b M c3 s.1 s.2) s
theorem t_3_L13 {rom : xRom} {d : Nat} {c3 : Int} {M : xM} {s : Int × Int} {r : Int} {out : Option xV × xH} (e : f_3_L13 M c3 s = some r) (hK : (eI M out) r) : Rn rom (d + 0) 3 (13, [none, some (vI s.1), some (vR 178), some (vI c3), some (vI s.2), none], [], (G0, M)) out := by
  unfold f_3_L13 at e
  revert e hK
  exact R_loop (b := fun s => f_3_L13b M c3 s.1 s.2) (G := fun s => Rn rom (d + 0) 3 (13, [none, some (vI s.1), some (vR 178), some (vI c3), some (vI s.2), none], [], (G0, M)) out) (K := eI M out) (fun s r e hK => t_3_L13b  e hK) NF s r
/-- PedalLayers$Ear.howManyKeys -/
def f_3 (M : xM) : Option (Int) :=
  f_3_L13 M 36 (0, 0)
theorem t_3 {rom : xRom} {d : Nat} {M : xM}  {r : Int} {out : Option xV × xH} (e : f_3 M = some r) (hK : eI M out r) : Rn rom (d + 0) 3 (0, [some (vR 177), none, none, none, none, none], [], (G0, M)) out := by
  have hc : xkall.getD 3 [] = xk_3 := rfl
  unfold f_3 at e
  refine Rn_ms (σ' := (3, [some (vR 177), some (vI 0), none, none, none, none], [vR 177], (G0, M))) hc 3 rfl ?_
  refine Rn_getR hc rfl tgc_177 (by decide) rfl prc_177_0 ?_
  refine Rn_ms (σ' := (8, [some (vR 177), some (vI 0), some (vR 178), none, none, none], [vR 178], (G0, M))) hc 2 rfl ?_
  refine Rn_alen hc rfl rfl tgc_178 (by decide) zsc_178 ?_
  refine Rn_ms (σ' := (13, [some (vR 177), some (vI 0), some (vR 178), some (vI 36), some (vI 0), none], [], (G0, M))) hc 3 rfl ?_
  exact Rn_weak (xle_n (xle_s (xle_s (xle_s (xle_s (xle_s xle_0)))))) (t_3_L13  e hK)
def f_4_L13b (M : xM) (c3 : Int) (v1 : Int) (v4 : Int) : Option ((Int × Int) ⊕ (Int)) :=
  if wr c3 ≤ wr v4 then
    some (.inr (v1))
  else
    gd (0 ≤ wr v4 ∧ wr v4 < 36) (
    some (.inl ((v1 + (M 178 (wr v4).toNat)), (v4 + 1)))
    )
theorem t_4_L13b {rom : xRom} {d : Nat} {c3 : Int} {v1 : Int} {v4 : Int} {M : xM} {r : (Int × Int) ⊕ (Int)} {out : Option xV × xH} (e : f_4_L13b M c3 v1 v4 = some r) (hK : ((Sum.elim (fun s => Rn rom (d + 0) 4 (13, [none, some (vI s.1), some (vR 178), some (vI c3), some (vI s.2), none], [], (G0, M)) out) (eI M out))) r) : Rn rom (d + 0) 4 (13, [none, some (vI v1), some (vR 178), some (vI c3), some (vI v4), none], [], (G0, M)) out := by
  have hc : xkall.getD 4 [] = xk_4 := rfl
  unfold f_4_L13b at e
  refine Rn_ms (σ' := (16, [none, some (vI v1), some (vR 178), some (vI c3), some (vI v4), none], [vI c3, vI v4], (G0, M))) hc 2 rfl ?_
  refine R_ite e (fun b1 e => ?_) (fun b1 e => ?_)
  · refine Rn_icT (tgt := 36) hc rfl rfl (by decide) b1 ?_
    refine Rn_ms (σ' := (37, [none, some (vI v1), some (vR 178), some (vI c3), some (vI v4), none], [vI v1], (G0, M))) hc 1 rfl ?_
    cases e
    exact R_end (Rn_iret hc rfl rfl (xretI rfl rfl)) hK
  · refine Rn_icF hc rfl rfl (by decide) b1 ?_
    refine Rn_ms (σ' := (22, [none, some (vI v1), some (vR 178), some (vI c3), some (vI v4), none], [vI v4, vR 178], (G0, M))) hc 2 rfl ?_
    refine R_gd e (fun g2 e => ?_)
    refine Rn_iald hc rfl rfl tgc_178 zsc_178 g2 rfl ?_
    refine Rn_ms (σ' := (13, [none, some (vI (v1 + (M 178 (wr v4).toNat))), some (vR 178), some (vI c3), some (vI (v4 + 1)), some (vI (M 178 (wr v4).toNat))], [], (G0, M))) hc 7 rfl ?_
    cases e
    exact Rn_weak (xle_s (xle_s (xle_s (xle_s (xle_s (xle_n xle_0)))))) hK
def f_4_L13 (M : xM) (c3 : Int) (s : Int × Int) : Option (Int) := loop NF (fun s => f_4_L13b M c3 s.1 s.2) s
theorem t_4_L13 {rom : xRom} {d : Nat} {c3 : Int} {M : xM} {s : Int × Int} {r : Int} {out : Option xV × xH} (e : f_4_L13 M c3 s = some r) (hK : (eI M out) r) : Rn rom (d + 0) 4 (13, [none, some (vI s.1), some (vR 178), some (vI c3), some (vI s.2), none], [], (G0, M)) out := by
  unfold f_4_L13 at e
  revert e hK
  exact R_loop (b := fun s => f_4_L13b M c3 s.1 s.2) (G := fun s => Rn rom (d + 0) 4 (13, [none, some (vI s.1), some (vR 178), some (vI c3), some (vI s.2), none], [], (G0, M)) out) (K := eI M out) (fun s r e hK => t_4_L13b  e hK) NF s r
/-- PedalLayers$Ear.sum -/
def f_4 (M : xM) : Option (Int) :=
  f_4_L13 M 36 (0, 0)
theorem t_4 {rom : xRom} {d : Nat} {M : xM}  {r : Int} {out : Option xV × xH} (e : f_4 M = some r) (hK : eI M out r) : Rn rom (d + 0) 4 (0, [some (vR 177), none, none, none, none, none], [], (G0, M)) out := by
  have hc : xkall.getD 4 [] = xk_4 := rfl
  unfold f_4 at e
  refine Rn_ms (σ' := (3, [some (vR 177), some (vI 0), none, none, none, none], [vR 177], (G0, M))) hc 3 rfl ?_
  refine Rn_getR hc rfl tgc_177 (by decide) rfl prc_177_0 ?_
  refine Rn_ms (σ' := (8, [some (vR 177), some (vI 0), some (vR 178), none, none, none], [vR 178], (G0, M))) hc 2 rfl ?_
  refine Rn_alen hc rfl rfl tgc_178 (by decide) zsc_178 ?_
  refine Rn_ms (σ' := (13, [some (vR 177), some (vI 0), some (vR 178), some (vI 36), some (vI 0), none], [], (G0, M))) hc 3 rfl ?_
  exact Rn_weak (xle_n (xle_s (xle_s (xle_s (xle_s (xle_s xle_0)))))) (t_4_L13  e hK)
def f_5_L8b (M : xM) (v1 : Int) : Option ((Int) ⊕ (Int)) :=
  if wr v1 < 0 then
    some (.inr ((-4)))
  else
    if wr (f_2 M v1) ≤ 0 then
      some (.inl (v1 + (-1)))
    else
      some (.inr (v1))
theorem t_5_L8b {rom : xRom} {d : Nat} {v1 : Int} {M : xM} {r : (Int) ⊕ (Int)} {out : Option xV × xH} (e : f_5_L8b M v1 = some r) (hK : ((Sum.elim (fun s => Rn rom (d + 1) 5 (8, [some (vR 177), some (vI s)], [], (G0, M)) out) (eI M out))) r) : Rn rom (d + 1) 5 (8, [some (vR 177), some (vI v1)], [], (G0, M)) out := by
  have hc : xkall.getD 5 [] = xk_5 := rfl
  unfold f_5_L8b at e
  refine Rn_ms (σ' := (9, [some (vR 177), some (vI v1)], [vI v1], (G0, M))) hc 1 rfl ?_
  refine R_ite e (fun b1 e => ?_) (fun b1 e => ?_)
  · refine Rn_ifT (tgt := 28) hc rfl rfl (by decide) b1 ?_
    refine Rn_ms (σ' := (30, [some (vR 177), some (vI v1)], [vI (-4)], (G0, M))) hc 1 rfl ?_
    cases e
    exact R_end (Rn_iret hc rfl rfl (xretI rfl rfl)) hK
  · refine Rn_ifF hc rfl rfl (by decide) b1 ?_
    refine Rn_ms (σ' := (14, [some (vR 177), some (vI v1)], [vI v1, vR 177], (G0, M))) hc 2 rfl ?_
    refine Rn_cv hc rfl rfl (by decide) (ii := xi_2) rfl rfl rfl (tgc_177 : Tg _ = 0) (by decide) rfl (le := [some (vR 177), some (vI v1)]) rfl (v := some (vI (f_2 M v1))) (M' := M) (t_2  (d := d + 0) rfl rfl) ?_
    show Rn rom (d + 1) 5 (17, [some (vR 177), some (vI v1)], [vI (f_2 M v1)], (G0, M)) out
    refine R_ite e (fun b2 e => ?_) (fun b2 e => ?_)
    · refine Rn_ifT (tgt := 22) hc rfl rfl (by decide) b2 ?_
      refine Rn_ms (σ' := (8, [some (vR 177), some (vI (v1 + (-1)))], [], (G0, M))) hc 2 rfl ?_
      cases e
      exact Rn_weak (xle_s (xle_s xle_0)) hK
    · refine Rn_ifF hc rfl rfl (by decide) b2 ?_
      refine Rn_ms (σ' := (21, [some (vR 177), some (vI v1)], [vI v1], (G0, M))) hc 1 rfl ?_
      cases e
      exact R_end (Rn_iret hc rfl rfl (xretI rfl rfl)) hK
def f_5_L8 (M : xM) (s : Int) : Option (Int) := loop NF (fun s => f_5_L8b M s) s
theorem t_5_L8 {rom : xRom} {d : Nat}  {M : xM} {s : Int} {r : Int} {out : Option xV × xH} (e : f_5_L8 M s = some r) (hK : (eI M out) r) : Rn rom (d + 1) 5 (8, [some (vR 177), some (vI s)], [], (G0, M)) out := by
  unfold f_5_L8 at e
  revert e hK
  exact R_loop (b := fun s => f_5_L8b M s) (G := fun s => Rn rom (d + 1) 5 (8, [some (vR 177), some (vI s)], [], (G0, M)) out) (K := eI M out) (fun s r e hK => t_5_L8b  e hK) NF s r
/-- PedalLayers$Ear.highestKey -/
def f_5 (M : xM) : Option (Int) :=
  f_5_L8 M ((36 - 1))
theorem t_5 {rom : xRom} {d : Nat} {M : xM}  {r : Int} {out : Option xV × xH} (e : f_5 M = some r) (hK : eI M out r) : Rn rom (d + 1) 5 (0, [some (vR 177), none], [], (G0, M)) out := by
  have hc : xkall.getD 5 [] = xk_5 := rfl
  unfold f_5 at e
  refine Rn_ms (σ' := (1, [some (vR 177), none], [vR 177], (G0, M))) hc 1 rfl ?_
  refine Rn_getR hc rfl tgc_177 (by decide) rfl prc_177_0 ?_
  show Rn rom (d + 1) 5 (4, [some (vR 177), none], [vR 178], (G0, M)) out
  refine Rn_alen hc rfl rfl tgc_178 (by decide) zsc_178 ?_
  refine Rn_ms (σ' := (8, [some (vR 177), some (vI (36 - 1))], [], (G0, M))) hc 3 rfl ?_
  exact Rn_weak (xle_s (xle_s xle_0)) (t_5_L8  e hK)
def f_6_L2b (M : xM) (v1 : Int) : Option ((Int) ⊕ (Int)) :=
  if 36 ≤ wr v1 then
    some (.inr ((-4)))
  else
    gd (0 ≤ wr v1 ∧ wr v1 < 36) (
    if wr (M 178 (wr v1).toNat) ≤ 0 then
      some (.inl (v1 + 1))
    else
      some (.inr (v1))
    )
theorem t_6_L2b {rom : xRom} {d : Nat} {v1 : Int} {M : xM} {r : (Int) ⊕ (Int)} {out : Option xV × xH} (e : f_6_L2b M v1 = some r) (hK : ((Sum.elim (fun s => Rn rom (d + 0) 6 (2, [some (vR 177), some (vI s)], [], (G0, M)) out) (eI M out))) r) : Rn rom (d + 0) 6 (2, [some (vR 177), some (vI v1)], [], (G0, M)) out := by
  have hc : xkall.getD 6 [] = xk_6 := rfl
  unfold f_6_L2b at e
  refine Rn_ms (σ' := (4, [some (vR 177), some (vI v1)], [vR 177, vI v1], (G0, M))) hc 2 rfl ?_
  refine Rn_getR hc rfl tgc_177 (by decide) rfl prc_177_0 ?_
  show Rn rom (d + 0) 6 (7, [some (vR 177), some (vI v1)], [vR 178, vI v1], (G0, M)) out
  refine Rn_alen hc rfl rfl tgc_178 (by decide) zsc_178 ?_
  show Rn rom (d + 0) 6 (8, [some (vR 177), some (vI v1)], [vI 36, vI v1], (G0, M)) out
  refine R_ite e (fun b1 e => ?_) (fun b1 e => ?_)
  · refine Rn_icT (tgt := 28) hc rfl rfl (by decide) b1 ?_
    refine Rn_ms (σ' := (30, [some (vR 177), some (vI v1)], [vI (-4)], (G0, M))) hc 1 rfl ?_
    cases e
    exact R_end (Rn_iret hc rfl rfl (xretI rfl rfl)) hK
  · refine Rn_icF hc rfl rfl (by decide) b1 ?_
    refine Rn_ms (σ' := (12, [some (vR 177), some (vI v1)], [vR 177], (G0, M))) hc 1 rfl ?_
    refine Rn_getR hc rfl tgc_177 (by decide) rfl prc_177_0 ?_
    refine Rn_ms (σ' := (16, [some (vR 177), some (vI v1)], [vI v1, vR 178], (G0, M))) hc 1 rfl ?_
    refine R_gd e (fun g2 e => ?_)
    refine Rn_iald hc rfl rfl tgc_178 zsc_178 g2 rfl ?_
    show Rn rom (d + 0) 6 (17, [some (vR 177), some (vI v1)], [vI (M 178 (wr v1).toNat)], (G0, M)) out
    refine R_ite e (fun b3 e => ?_) (fun b3 e => ?_)
    · refine Rn_ifT (tgt := 22) hc rfl rfl (by decide) b3 ?_
      refine Rn_ms (σ' := (2, [some (vR 177), some (vI (v1 + 1))], [], (G0, M))) hc 2 rfl ?_
      cases e
      exact Rn_weak (xle_s (xle_s xle_0)) hK
    · refine Rn_ifF hc rfl rfl (by decide) b3 ?_
      refine Rn_ms (σ' := (21, [some (vR 177), some (vI v1)], [vI v1], (G0, M))) hc 1 rfl ?_
      cases e
      exact R_end (Rn_iret hc rfl rfl (xretI rfl rfl)) hK
def f_6_L2 (M : xM) (s : Int) : Option (Int) := loop NF (fun s => f_6_L2b M s) s
theorem t_6_L2 {rom : xRom} {d : Nat}  {M : xM} {s : Int} {r : Int} {out : Option xV × xH} (e : f_6_L2 M s = some r) (hK : (eI M out) r) : Rn rom (d + 0) 6 (2, [some (vR 177), some (vI s)], [], (G0, M)) out := by
  unfold f_6_L2 at e
  revert e hK
  exact R_loop (b := fun s => f_6_L2b M s) (G := fun s => Rn rom (d + 0) 6 (2, [some (vR 177), some (vI s)], [], (G0, M)) out) (K := eI M out) (fun s r e hK => t_6_L2b  e hK) NF s r
/-- PedalLayers$Ear.lowestKey -/
def f_6 (M : xM) : Option (Int) :=
  f_6_L2 M (0)
theorem t_6 {rom : xRom} {d : Nat} {M : xM}  {r : Int} {out : Option xV × xH} (e : f_6 M = some r) (hK : eI M out r) : Rn rom (d + 0) 6 (0, [some (vR 177), none], [], (G0, M)) out := by
  have hc : xkall.getD 6 [] = xk_6 := rfl
  unfold f_6 at e
  refine Rn_ms (σ' := (2, [some (vR 177), some (vI 0)], [], (G0, M))) hc 2 rfl ?_
  exact Rn_weak (xle_s (xle_s xle_0)) (t_6_L2  e hK)
def f_7_L7b (M : xM) (v1 : Int) (v2 : Int) (v3 : Int) : Option ((Int × Int × Int) ⊕ (Int)) :=
  if 36 ≤ wr v3 then
    some (.inr (v1))
  else
    gd (0 ≤ wr v3 ∧ wr v3 < 36) (
    if wr (M 178 (wr v3).toNat) ≤ wr v2 then
      some (.inl (v1, v2, (v3 + 1)))
    else
      gd (0 ≤ wr v3 ∧ wr v3 < 36) (
      some (.inl (v3, (M 178 (wr v3).toNat), (v3 + 1)))
      )
    )
theorem t_7_L7b {rom : xRom} {d : Nat} {v1 : Int} {v2 : Int} {v3 : Int} {M : xM} {r : (Int × Int × Int) ⊕ (Int)} {out : Option xV × xH} (e : f_7_L7b M v1 v2 v3 = some r) (hK : ((Sum.elim (fun s => Rn rom (d + 0) 7 (7, [some (vR 177), some (vI s.1), some (vI s.2.1), some (vI s.2.2)], [], (G0, M)) out) (eI M out))) r) : Rn rom (d + 0) 7 (7, [some (vR 177), some (vI v1), some (vI v2), some (vI v3)], [], (G0, M)) out := by
  have hc : xkall.getD 7 [] = xk_7 := rfl
  unfold f_7_L7b at e
  refine Rn_ms (σ' := (9, [some (vR 177), some (vI v1), some (vI v2), some (vI v3)], [vR 177, vI v3], (G0, M))) hc 2 rfl ?_
  refine Rn_getR hc rfl tgc_177 (by decide) rfl prc_177_0 ?_
  show Rn rom (d + 0) 7 (12, [some (vR 177), some (vI v1), some (vI v2), some (vI v3)], [vR 178, vI v3], (G0, M)) out
  refine Rn_alen hc rfl rfl tgc_178 (by decide) zsc_178 ?_
  show Rn rom (d + 0) 7 (13, [some (vR 177), some (vI v1), some (vI v2), some (vI v3)], [vI 36, vI v3], (G0, M)) out
  refine R_ite e (fun b1 e => ?_) (fun b1 e => ?_)
  · refine Rn_icT (tgt := 41) hc rfl rfl (by decide) b1 ?_
    refine Rn_ms (σ' := (42, [some (vR 177), some (vI v1), some (vI v2), some (vI v3)], [vI v1], (G0, M))) hc 1 rfl ?_
    cases e
    exact R_end (Rn_iret hc rfl rfl (xretI rfl rfl)) hK
  · refine Rn_icF hc rfl rfl (by decide) b1 ?_
    refine Rn_ms (σ' := (17, [some (vR 177), some (vI v1), some (vI v2), some (vI v3)], [vR 177], (G0, M))) hc 1 rfl ?_
    refine Rn_getR hc rfl tgc_177 (by decide) rfl prc_177_0 ?_
    refine Rn_ms (σ' := (21, [some (vR 177), some (vI v1), some (vI v2), some (vI v3)], [vI v3, vR 178], (G0, M))) hc 1 rfl ?_
    refine R_gd e (fun g2 e => ?_)
    refine Rn_iald hc rfl rfl tgc_178 zsc_178 g2 rfl ?_
    refine Rn_ms (σ' := (23, [some (vR 177), some (vI v1), some (vI v2), some (vI v3)], [vI v2, vI (M 178 (wr v3).toNat)], (G0, M))) hc 1 rfl ?_
    refine R_ite e (fun b3 e => ?_) (fun b3 e => ?_)
    · refine Rn_icT (tgt := 35) hc rfl rfl (by decide) b3 ?_
      refine Rn_ms (σ' := (7, [some (vR 177), some (vI v1), some (vI v2), some (vI (v3 + 1))], [], (G0, M))) hc 2 rfl ?_
      cases e
      exact Rn_weak (xle_s (xle_s (xle_s (xle_s xle_0)))) hK
    · refine Rn_icF hc rfl rfl (by decide) b3 ?_
      refine Rn_ms (σ' := (27, [some (vR 177), some (vI v1), some (vI v2), some (vI v3)], [vR 177], (G0, M))) hc 1 rfl ?_
      refine Rn_getR hc rfl tgc_177 (by decide) rfl prc_177_0 ?_
      refine Rn_ms (σ' := (31, [some (vR 177), some (vI v1), some (vI v2), some (vI v3)], [vI v3, vR 178], (G0, M))) hc 1 rfl ?_
      refine R_gd e (fun g4 e => ?_)
      refine Rn_iald hc rfl rfl tgc_178 zsc_178 g4 rfl ?_
      refine Rn_ms (σ' := (7, [some (vR 177), some (vI v3), some (vI (M 178 (wr v3).toNat)), some (vI (v3 + 1))], [], (G0, M))) hc 5 rfl ?_
      cases e
      exact Rn_weak (xle_s (xle_s (xle_s (xle_s xle_0)))) hK
def f_7_L7 (M : xM) (s : Int × Int × Int) : Option (Int) := loop NF (fun s => f_7_L7b M s.1 s.2.1 s.2.2) s
theorem t_7_L7 {rom : xRom} {d : Nat}  {M : xM} {s : Int × Int × Int} {r : Int} {out : Option xV × xH} (e : f_7_L7 M s = some r) (hK : (eI M out) r) : Rn rom (d + 0) 7 (7, [some (vR 177), some (vI s.1), some (vI s.2.1), some (vI s.2.2)], [], (G0, M)) out := by
  unfold f_7_L7 at e
  revert e hK
  exact R_loop (b := fun s => f_7_L7b M s.1 s.2.1 s.2.2) (G := fun s => Rn rom (d + 0) 7 (7, [some (vR 177), some (vI s.1), some (vI s.2.1), some (vI s.2.2)], [], (G0, M)) out) (K := eI M out) (fun s r e hK => t_7_L7b  e hK) NF s r
/-- PedalLayers$Ear.strongestKey -/
def f_7 (M : xM) : Option (Int) :=
  f_7_L7 M ((-4), 0, 0)
theorem t_7 {rom : xRom} {d : Nat} {M : xM}  {r : Int} {out : Option xV × xH} (e : f_7 M = some r) (hK : eI M out r) : Rn rom (d + 0) 7 (0, [some (vR 177), none, none, none], [], (G0, M)) out := by
  have hc : xkall.getD 7 [] = xk_7 := rfl
  unfold f_7 at e
  refine Rn_ms (σ' := (7, [some (vR 177), some (vI (-4)), some (vI 0), some (vI 0)], [], (G0, M))) hc 6 rfl ?_
  exact Rn_weak (xle_s (xle_s (xle_s (xle_s xle_0)))) (t_7_L7  e hK)
def f_62_L4b (M : xM) (a0 : Nat) (c1 : Int) (v2 : Int) (v3 : Int) : Option ((Int × Int) ⊕ (Int)) :=
  if wr c1 ≤ wr v3 then
    some (.inr (v2))
  else
    if (f_57 a0 v3) = 0 then
      some (.inl (v2, (v3 + 1)))
    else
      gd (Tg (f_57 a0 v3) = 3) (
      some (.inl ((xmax v2 (f_29 M ((f_57 a0 v3) + 1))), (v3 + 1)))
      )
theorem t_62_L4b {rom : xRom} {d : Nat} {a0 : Nat} {c1 : Int} {v2 : Int} {v3 : Int} {M : xM} (h0 : Tg a0 = 7) {r : (Int × Int) ⊕ (Int)} {out : Option xV × xH} (e : f_62_L4b M a0 c1 v2 v3 = some r) (hK : ((Sum.elim (fun s => Rn rom (d + 1) 62 (4, [some (vR a0), some (vI c1), some (vI s.1), some (vI s.2), none], [], (G0, M)) out) (eI M out))) r) : Rn rom (d + 1) 62 (4, [some (vR a0), some (vI c1), some (vI v2), some (vI v3), none], [], (G0, M)) out := by
  have hc : xkall.getD 62 [] = xk_62 := rfl
  unfold f_62_L4b at e
  refine Rn_ms (σ' := (6, [some (vR a0), some (vI c1), some (vI v2), some (vI v3), none], [vI c1, vI v3], (G0, M))) hc 2 rfl ?_
  refine R_ite e (fun b1 e => ?_) (fun b1 e => ?_)
  · refine Rn_icT (tgt := 40) hc rfl rfl (by decide) b1 ?_
    refine Rn_ms (σ' := (41, [some (vR a0), some (vI c1), some (vI v2), some (vI v3), none], [vI v2], (G0, M))) hc 1 rfl ?_
    cases e
    exact R_end (Rn_iret hc rfl rfl (xretI rfl rfl)) hK
  · refine Rn_icF hc rfl rfl (by decide) b1 ?_
    refine Rn_ms (σ' := (11, [some (vR a0), some (vI c1), some (vI v2), some (vI v3), none], [vI v3, vR a0], (G0, M))) hc 2 rfl ?_
    refine Rn_cv hc rfl rfl (by decide) (ii := xi_57) rfl rfl rfl (h0 : Tg _ = 7) (by decide) rfl (le := [some (vR a0), some (vI v3)]) rfl (v := some (vR (f_57 a0 v3))) (M' := M) (t_57 h0 (d := d + 0) rfl rfl) ?_
    refine Rn_ms (σ' := (18, [some (vR a0), some (vI c1), some (vI v2), some (vI v3), some (vR (f_57 a0 v3))], [vR (f_57 a0 v3)], (G0, M))) hc 2 rfl ?_
    refine R_ite e (fun b2 e => ?_) (fun b2 e => ?_)
    · refine Rn_nuT (tgt := 34) hc rfl rfl (by decide) b2 ?_
      refine Rn_ms (σ' := (4, [some (vR a0), some (vI c1), some (vI v2), some (vI (v3 + 1)), some (vR (f_57 a0 v3))], [], (G0, M))) hc 2 rfl ?_
      cases e
      exact Rn_weak (xle_s (xle_s (xle_s (xle_s (xle_n xle_0))))) hK
    · refine Rn_nuF hc rfl rfl (by decide) b2 ?_
      refine Rn_ms (σ' := (24, [some (vR a0), some (vI c1), some (vI v2), some (vI v3), some (vR (f_57 a0 v3))], [vR (f_57 a0 v3), vI v2], (G0, M))) hc 2 rfl ?_
      refine R_gd e (fun g3 e => ?_)
      refine Rn_getR hc rfl g3 (by decide) rfl (gP3_0_0 g3) ?_
      show Rn rom (d + 1) 62 (27, [some (vR a0), some (vI c1), some (vI v2), some (vI v3), some (vR (f_57 a0 v3))], [vR ((f_57 a0 v3) + 1), vI v2], (G0, M)) out
      refine Rn_cv hc rfl rfl (by decide) (ii := xi_29) rfl rfl rfl ((gT3_1 g3) : Tg _ = 4) (by decide) rfl (le := [some (vR ((f_57 a0 v3) + 1))]) rfl (v := some (vI (f_29 M ((f_57 a0 v3) + 1)))) (M' := M) (t_29 (gT3_1 g3) (d := d + 0) rfl rfl) ?_
      show Rn rom (d + 1) 62 (30, [some (vR a0), some (vI c1), some (vI v2), some (vI v3), some (vR (f_57 a0 v3))], [vI (f_29 M ((f_57 a0 v3) + 1)), vI v2], (G0, M)) out
      refine Rn_max hc rfl rfl (by decide) ?_
      refine Rn_ms (σ' := (4, [some (vR a0), some (vI c1), some (vI (xmax v2 (f_29 M ((f_57 a0 v3) + 1)))), some (vI (v3 + 1)), some (vR (f_57 a0 v3))], [], (G0, M))) hc 3 rfl ?_
      cases e
      exact Rn_weak (xle_s (xle_s (xle_s (xle_s (xle_n xle_0))))) hK
def f_62_L4 (M : xM) (a0 : Nat) (c1 : Int) (s : Int × Int) : Option (Int) := loop NF (fun s => f_62_L4b M a0 c1 s.1 s.2) s
theorem t_62_L4 {rom : xRom} {d : Nat} {a0 : Nat} {c1 : Int} {M : xM} (h0 : Tg a0 = 7) {s : Int × Int} {r : Int} {out : Option xV × xH} (e : f_62_L4 M a0 c1 s = some r) (hK : (eI M out) r) : Rn rom (d + 1) 62 (4, [some (vR a0), some (vI c1), some (vI s.1), some (vI s.2), none], [], (G0, M)) out := by
  unfold f_62_L4 at e
  revert e hK
  exact R_loop (b := fun s => f_62_L4b M a0 c1 s.1 s.2) (G := fun s => Rn rom (d + 1) 62 (4, [some (vR a0), some (vI c1), some (vI s.1), some (vI s.2), none], [], (G0, M)) out) (K := eI M out) (fun s r e hK => t_62_L4b h0 e hK) NF s r
/-- PedalLayers$Pedal.loopLength -/
def f_62 (M : xM) (a0 : Nat) (a1 : Int) : Option (Int) :=
  f_62_L4 M a0 a1 (0, 0)
theorem t_62 {rom : xRom} {d : Nat} {M : xM} {a0 : Nat} {a1 : Int} (h0 : Tg a0 = 7) {r : Int} {out : Option xV × xH} (e : f_62 M a0 a1 = some r) (hK : eI M out r) : Rn rom (d + 1) 62 (0, [some (vR a0), some (vI a1), none, none, none], [], (G0, M)) out := by
  have hc : xkall.getD 62 [] = xk_62 := rfl
  unfold f_62 at e
  refine Rn_ms (σ' := (4, [some (vR a0), some (vI a1), some (vI 0), some (vI 0), none], [], (G0, M))) hc 4 rfl ?_
  exact Rn_weak (xle_s (xle_s (xle_s (xle_s (xle_s xle_0))))) (t_62_L4 h0 e hK)
def f_8_L12b (a1 : Nat) (c2 : Int) (c4 : Int) (v3 : Int) (v5 : Int) (M : xM) : Option ((Int × Int × xM) ⊕ (Int × xM)) :=
  if wr c4 ≤ wr v5 then
    some (.inr ((v3, M)))
  else
    (f_1 M a1 c2 v5).bind (fun k3 =>
    (f_4 k3).bind (fun k4 =>
    some (.inl ((v3 + k4), (v5 + 1), k3))
    ))
theorem t_8_L12b {rom : xRom} {d : Nat} {a1 : Nat} {c2 : Int} {c4 : Int} {v3 : Int} {v5 : Int} {M : xM} (h1 : Tg a1 = 7) {r : (Int × Int × xM) ⊕ (Int × xM)} {out : Option xV × xH} (e : f_8_L12b a1 c2 c4 v3 v5 M = some r) (hK : ((Sum.elim (fun s => Rn rom (d + 4) 8 (12, [some (vR 177), some (vR a1), some (vI c2), some (vI s.1), some (vI c4), some (vI s.2.1)], [], (G0, s.2.2)) out) (eIW out))) r) : Rn rom (d + 4) 8 (12, [some (vR 177), some (vR a1), some (vI c2), some (vI v3), some (vI c4), some (vI v5)], [], (G0, M)) out := by
  have hc : xkall.getD 8 [] = xk_8 := rfl
  unfold f_8_L12b at e
  refine Rn_ms (σ' := (16, [some (vR 177), some (vR a1), some (vI c2), some (vI v3), some (vI c4), some (vI v5)], [vI c4, vI v5], (G0, M))) hc 2 rfl ?_
  refine R_ite e (fun b2 e => ?_) (fun b2 e => ?_)
  · refine Rn_icT (tgt := 40) hc rfl rfl (by decide) b2 ?_
    refine Rn_ms (σ' := (41, [some (vR 177), some (vR a1), some (vI c2), some (vI v3), some (vI c4), some (vI v5)], [vI v3], (G0, M))) hc 1 rfl ?_
    cases e
    exact R_end (Rn_iret hc rfl rfl (xretI rfl rfl)) hK
  · refine Rn_icF hc rfl rfl (by decide) b2 ?_
    refine Rn_ms (σ' := (24, [some (vR 177), some (vR a1), some (vI c2), some (vI v3), some (vI c4), some (vI v5)], [vI v5, vI c2, vR a1, vR 177], (G0, M))) hc 4 rfl ?_
    refine R_bind e (fun k3 hk3 e => ?_)
    refine Rn_cv hc rfl rfl (by decide) (ii := xi_1) rfl rfl rfl (tgc_177 : Tg _ = 0) (by decide) rfl (le := [some (vR 177), some (vR a1), some (vI c2), some (vI v5), none, none, none, none, none]) rfl (v := none) (M' := k3) (t_1 h1 (d := d + 0) hk3 rfl) ?_
    refine Rn_ms (σ' := (29, [some (vR 177), some (vR a1), some (vI c2), some (vI v3), some (vI c4), some (vI v5)], [vR 177, vI v3], (G0, k3))) hc 2 rfl ?_
    refine R_bind e (fun k4 hk4 e => ?_)
    refine Rn_cv hc rfl rfl (by decide) (ii := xi_4) rfl rfl rfl (tgc_177 : Tg _ = 0) (by decide) rfl (le := [some (vR 177), none, none, none, none, none]) rfl (v := some (vI k4)) (M' := k3) (t_4  (d := d + 3) hk4 rfl) ?_
    refine Rn_ms (σ' := (12, [some (vR 177), some (vR a1), some (vI c2), some (vI (v3 + k4)), some (vI c4), some (vI (v5 + 1))], [], (G0, k3))) hc 4 rfl ?_
    cases e
    exact Rn_weak (xle_s (xle_s (xle_s (xle_s (xle_s (xle_s xle_0)))))) hK
def f_8_L12 (a1 : Nat) (c2 : Int) (c4 : Int) (s : Int × Int × xM) : Option (Int × xM) := loop NF (fun s => f_8_L12b a1 c2 c4 s.1 s.2.1 s.2.2) s
theorem t_8_L12 {rom : xRom} {d : Nat} {a1 : Nat} {c2 : Int} {c4 : Int} (h1 : Tg a1 = 7) {s : Int × Int × xM} {r : Int × xM} {out : Option xV × xH} (e : f_8_L12 a1 c2 c4 s = some r) (hK : (eIW out) r) : Rn rom (d + 4) 8 (12, [some (vR 177), some (vR a1), some (vI c2), some (vI s.1), some (vI c4), some (vI s.2.1)], [], (G0, s.2.2)) out := by
  unfold f_8_L12 at e
  revert e hK
  exact R_loop (b := fun s => f_8_L12b a1 c2 c4 s.1 s.2.1 s.2.2) (G := fun s => Rn rom (d + 4) 8 (12, [some (vR 177), some (vR a1), some (vI c2), some (vI s.1), some (vI c4), some (vI s.2.1)], [], (G0, s.2.2)) out) (K := eIW out) (fun s r e hK => t_8_L12b h1 e hK) NF s r
/-- PedalLayers$Ear.sumOfCells -/
def f_8 (M : xM) (a1 : Nat) (a2 : Int) : Option (Int × xM) :=
  (f_62 M a1 a2).bind (fun k1 =>
  f_8_L12 a1 a2 k1 (0, 0, M)
  )
theorem t_8 {rom : xRom} {d : Nat} {M : xM} {a1 : Nat} {a2 : Int} (h1 : Tg a1 = 7) {r : Int × xM} {out : Option xV × xH} (e : f_8 M a1 a2 = some r) (hK : eIW out r) : Rn rom (d + 4) 8 (0, [some (vR 177), some (vR a1), some (vI a2), none, none, none], [], (G0, M)) out := by
  have hc : xkall.getD 8 [] = xk_8 := rfl
  unfold f_8 at e
  refine Rn_ms (σ' := (4, [some (vR 177), some (vR a1), some (vI a2), some (vI 0), none, none], [vI a2, vR a1], (G0, M))) hc 4 rfl ?_
  refine R_bind e (fun k1 hk1 e => ?_)
  refine Rn_cv hc rfl rfl (by decide) (ii := xi_62) rfl rfl rfl (h1 : Tg _ = 7) (by decide) rfl (le := [some (vR a1), some (vI a2), none, none, none]) rfl (v := some (vI k1)) (M' := M) (t_62 h1 (d := d + 2) hk1 rfl) ?_
  refine Rn_ms (σ' := (12, [some (vR 177), some (vR a1), some (vI a2), some (vI 0), some (vI k1), some (vI 0)], [], (G0, M))) hc 3 rfl ?_
  exact Rn_weak (xle_s (xle_s (xle_s (xle_s (xle_s (xle_s xle_0)))))) (t_8_L12 h1 e hK)
def f_9_L12b (a1 : Nat) (c2 : Int) (c4 : Int) (v3 : Int) (v5 : Int) (M : xM) : Option ((Int × Int × xM) ⊕ (Int × xM)) :=
  if wr c4 ≤ wr v5 then
    some (.inr ((v3, M)))
  else
    (f_1 M a1 c2 v5).bind (fun k3 =>
    (f_4 k3).bind (fun k4 =>
    if wr k4 = 0 then
      some (.inl ((v3 + 1), (v5 + 1), k3))
    else
      some (.inl (v3, (v5 + 1), k3))
    ))
theorem t_9_L12b {rom : xRom} {d : Nat} {a1 : Nat} {c2 : Int} {c4 : Int} {v3 : Int} {v5 : Int} {M : xM} (h1 : Tg a1 = 7) {r : (Int × Int × xM) ⊕ (Int × xM)} {out : Option xV × xH} (e : f_9_L12b a1 c2 c4 v3 v5 M = some r) (hK : ((Sum.elim (fun s => Rn rom (d + 4) 9 (12, [some (vR 177), some (vR a1), some (vI c2), some (vI s.1), some (vI c4), some (vI s.2.1)], [], (G0, s.2.2)) out) (eIW out))) r) : Rn rom (d + 4) 9 (12, [some (vR 177), some (vR a1), some (vI c2), some (vI v3), some (vI c4), some (vI v5)], [], (G0, M)) out := by
  have hc : xkall.getD 9 [] = xk_9 := rfl
  unfold f_9_L12b at e
  refine Rn_ms (σ' := (16, [some (vR 177), some (vR a1), some (vI c2), some (vI v3), some (vI c4), some (vI v5)], [vI c4, vI v5], (G0, M))) hc 2 rfl ?_
  refine R_ite e (fun b2 e => ?_) (fun b2 e => ?_)
  · refine Rn_icT (tgt := 43) hc rfl rfl (by decide) b2 ?_
    refine Rn_ms (σ' := (44, [some (vR 177), some (vR a1), some (vI c2), some (vI v3), some (vI c4), some (vI v5)], [vI v3], (G0, M))) hc 1 rfl ?_
    cases e
    exact R_end (Rn_iret hc rfl rfl (xretI rfl rfl)) hK
  · refine Rn_icF hc rfl rfl (by decide) b2 ?_
    refine Rn_ms (σ' := (24, [some (vR 177), some (vR a1), some (vI c2), some (vI v3), some (vI c4), some (vI v5)], [vI v5, vI c2, vR a1, vR 177], (G0, M))) hc 4 rfl ?_
    refine R_bind e (fun k3 hk3 e => ?_)
    refine Rn_cv hc rfl rfl (by decide) (ii := xi_1) rfl rfl rfl (tgc_177 : Tg _ = 0) (by decide) rfl (le := [some (vR 177), some (vR a1), some (vI c2), some (vI v5), none, none, none, none, none]) rfl (v := none) (M' := k3) (t_1 h1 (d := d + 0) hk3 rfl) ?_
    refine Rn_ms (σ' := (28, [some (vR 177), some (vR a1), some (vI c2), some (vI v3), some (vI c4), some (vI v5)], [vR 177], (G0, k3))) hc 1 rfl ?_
    refine R_bind e (fun k4 hk4 e => ?_)
    refine Rn_cv hc rfl rfl (by decide) (ii := xi_4) rfl rfl rfl (tgc_177 : Tg _ = 0) (by decide) rfl (le := [some (vR 177), none, none, none, none, none]) rfl (v := some (vI k4)) (M' := k3) (t_4  (d := d + 3) hk4 rfl) ?_
    show Rn rom (d + 4) 9 (31, [some (vR 177), some (vR a1), some (vI c2), some (vI v3), some (vI c4), some (vI v5)], [vI k4], (G0, k3)) out
    refine R_ite e (fun b5 e => ?_) (fun b5 e => ?_)
    · refine Rn_ifF hc rfl rfl (by decide) (fun w => w b5) ?_
      refine Rn_ms (σ' := (12, [some (vR 177), some (vR a1), some (vI c2), some (vI (v3 + 1)), some (vI c4), some (vI (v5 + 1))], [], (G0, k3))) hc 3 rfl ?_
      cases e
      exact Rn_weak (xle_s (xle_s (xle_s (xle_s (xle_s (xle_s xle_0)))))) hK
    · refine Rn_ifT (tgt := 37) hc rfl rfl (by decide) (fun w => b5 w) ?_
      refine Rn_ms (σ' := (12, [some (vR 177), some (vR a1), some (vI c2), some (vI v3), some (vI c4), some (vI (v5 + 1))], [], (G0, k3))) hc 2 rfl ?_
      cases e
      exact Rn_weak (xle_s (xle_s (xle_s (xle_s (xle_s (xle_s xle_0)))))) hK
def f_9_L12 (a1 : Nat) (c2 : Int) (c4 : Int) (s : Int × Int × xM) : Option (Int × xM) := loop NF (fun s => f_9_L12b a1 c2 c4 s.1 s.2.1 s.2.2) s
theorem t_9_L12 {rom : xRom} {d : Nat} {a1 : Nat} {c2 : Int} {c4 : Int} (h1 : Tg a1 = 7) {s : Int × Int × xM} {r : Int × xM} {out : Option xV × xH} (e : f_9_L12 a1 c2 c4 s = some r) (hK : (eIW out) r) : Rn rom (d + 4) 9 (12, [some (vR 177), some (vR a1), some (vI c2), some (vI s.1), some (vI c4), some (vI s.2.1)], [], (G0, s.2.2)) out := by
  unfold f_9_L12 at e
  revert e hK
  exact R_loop (b := fun s => f_9_L12b a1 c2 c4 s.1 s.2.1 s.2.2) (G := fun s => Rn rom (d + 4) 9 (12, [some (vR 177), some (vR a1), some (vI c2), some (vI s.1), some (vI c4), some (vI s.2.1)], [], (G0, s.2.2)) out) (K := eIW out) (fun s r e hK => t_9_L12b h1 e hK) NF s r
/-- PedalLayers$Ear.silentCells -/
def f_9 (M : xM) (a1 : Nat) (a2 : Int) : Option (Int × xM) :=
  (f_62 M a1 a2).bind (fun k1 =>
  f_9_L12 a1 a2 k1 (0, 0, M)
  )
theorem t_9 {rom : xRom} {d : Nat} {M : xM} {a1 : Nat} {a2 : Int} (h1 : Tg a1 = 7) {r : Int × xM} {out : Option xV × xH} (e : f_9 M a1 a2 = some r) (hK : eIW out r) : Rn rom (d + 4) 9 (0, [some (vR 177), some (vR a1), some (vI a2), none, none, none], [], (G0, M)) out := by
  have hc : xkall.getD 9 [] = xk_9 := rfl
  unfold f_9 at e
  refine Rn_ms (σ' := (4, [some (vR 177), some (vR a1), some (vI a2), some (vI 0), none, none], [vI a2, vR a1], (G0, M))) hc 4 rfl ?_
  refine R_bind e (fun k1 hk1 e => ?_)
  refine Rn_cv hc rfl rfl (by decide) (ii := xi_62) rfl rfl rfl (h1 : Tg _ = 7) (by decide) rfl (le := [some (vR a1), some (vI a2), none, none, none]) rfl (v := some (vI k1)) (M' := M) (t_62 h1 (d := d + 2) hk1 rfl) ?_
  refine Rn_ms (σ' := (12, [some (vR 177), some (vR a1), some (vI a2), some (vI 0), some (vI k1), some (vI 0)], [], (G0, M))) hc 3 rfl ?_
  exact Rn_weak (xle_s (xle_s (xle_s (xle_s (xle_s (xle_s xle_0)))))) (t_9_L12 h1 e hK)
def f_10_L18b (a1 : Nat) (c4 : Int) (v2 : Int) (v3 : Int) (v5 : Int) (M : xM) : Option ((Int × Int × Int × xM) ⊕ (Int × xM)) :=
  if wr c4 ≤ wr v5 then
    some (.inr ((v2, M)))
  else
    (f_1 M a1 (M a1 5) v5).bind (fun k3 =>
    (f_4 k3).bind (fun k4 =>
    if wr k4 ≤ wr v3 then
      some (.inl (v2, v3, (v5 + 1), k3))
    else
      (f_4 k3).bind (fun k6 =>
      some (.inl (v5, k6, (v5 + 1), k3))
      )
    ))
theorem t_10_L18b {rom : xRom} {d : Nat} {a1 : Nat} {c4 : Int} {v2 : Int} {v3 : Int} {v5 : Int} {M : xM} (h1 : Tg a1 = 7) {r : (Int × Int × Int × xM) ⊕ (Int × xM)} {out : Option xV × xH} (e : f_10_L18b a1 c4 v2 v3 v5 M = some r) (hK : ((Sum.elim (fun s => Rn rom (d + 4) 10 (18, [some (vR 177), some (vR a1), some (vI s.1), some (vI s.2.1), some (vI c4), some (vI s.2.2.1)], [], (G0, s.2.2.2)) out) (eIW out))) r) : Rn rom (d + 4) 10 (18, [some (vR 177), some (vR a1), some (vI v2), some (vI v3), some (vI c4), some (vI v5)], [], (G0, M)) out := by
  have hc : xkall.getD 10 [] = xk_10 := rfl
  unfold f_10_L18b at e
  refine Rn_ms (σ' := (22, [some (vR 177), some (vR a1), some (vI v2), some (vI v3), some (vI c4), some (vI v5)], [vI c4, vI v5], (G0, M))) hc 2 rfl ?_
  refine R_ite e (fun b2 e => ?_) (fun b2 e => ?_)
  · refine Rn_icT (tgt := 58) hc rfl rfl (by decide) b2 ?_
    refine Rn_ms (σ' := (59, [some (vR 177), some (vR a1), some (vI v2), some (vI v3), some (vI c4), some (vI v5)], [vI v2], (G0, M))) hc 1 rfl ?_
    cases e
    exact R_end (Rn_iret hc rfl rfl (xretI rfl rfl)) hK
  · refine Rn_icF hc rfl rfl (by decide) b2 ?_
    refine Rn_ms (σ' := (28, [some (vR 177), some (vR a1), some (vI v2), some (vI v3), some (vI c4), some (vI v5)], [vR a1, vR a1, vR 177], (G0, M))) hc 3 rfl ?_
    refine Rn_getI hc rfl h1 (by decide) (by decide) ?_
    refine Rn_ms (σ' := (33, [some (vR 177), some (vR a1), some (vI v2), some (vI v3), some (vI c4), some (vI v5)], [vI v5, vI (M a1 5), vR a1, vR 177], (G0, M))) hc 1 rfl ?_
    refine R_bind e (fun k3 hk3 e => ?_)
    refine Rn_cv hc rfl rfl (by decide) (ii := xi_1) rfl rfl rfl (tgc_177 : Tg _ = 0) (by decide) rfl (le := [some (vR 177), some (vR a1), some (vI (M a1 5)), some (vI v5), none, none, none, none, none]) rfl (v := none) (M' := k3) (t_1 h1 (d := d + 0) hk3 rfl) ?_
    refine Rn_ms (σ' := (37, [some (vR 177), some (vR a1), some (vI v2), some (vI v3), some (vI c4), some (vI v5)], [vR 177], (G0, k3))) hc 1 rfl ?_
    refine R_bind e (fun k4 hk4 e => ?_)
    refine Rn_cv hc rfl rfl (by decide) (ii := xi_4) rfl rfl rfl (tgc_177 : Tg _ = 0) (by decide) rfl (le := [some (vR 177), none, none, none, none, none]) rfl (v := some (vI k4)) (M' := k3) (t_4  (d := d + 3) hk4 rfl) ?_
    refine Rn_ms (σ' := (41, [some (vR 177), some (vR a1), some (vI v2), some (vI v3), some (vI c4), some (vI v5)], [vI v3, vI k4], (G0, k3))) hc 1 rfl ?_
    refine R_ite e (fun b5 e => ?_) (fun b5 e => ?_)
    · refine Rn_icT (tgt := 52) hc rfl rfl (by decide) b5 ?_
      refine Rn_ms (σ' := (18, [some (vR 177), some (vR a1), some (vI v2), some (vI v3), some (vI c4), some (vI (v5 + 1))], [], (G0, k3))) hc 2 rfl ?_
      cases e
      exact Rn_weak (xle_s (xle_s (xle_s (xle_s (xle_s (xle_s xle_0)))))) hK
    · refine Rn_icF hc rfl rfl (by decide) b5 ?_
      refine Rn_ms (σ' := (45, [some (vR 177), some (vR a1), some (vI v2), some (vI v3), some (vI c4), some (vI v5)], [vR 177], (G0, k3))) hc 1 rfl ?_
      refine R_bind e (fun k6 hk6 e => ?_)
      refine Rn_cv hc rfl rfl (by decide) (ii := xi_4) rfl rfl rfl (tgc_177 : Tg _ = 0) (by decide) rfl (le := [some (vR 177), none, none, none, none, none]) rfl (v := some (vI k6)) (M' := k3) (t_4  (d := d + 3) hk6 rfl) ?_
      refine Rn_ms (σ' := (18, [some (vR 177), some (vR a1), some (vI v5), some (vI k6), some (vI c4), some (vI (v5 + 1))], [], (G0, k3))) hc 5 rfl ?_
      cases e
      exact Rn_weak (xle_s (xle_s (xle_s (xle_s (xle_s (xle_s xle_0)))))) hK
def f_10_L18 (a1 : Nat) (c4 : Int) (s : Int × Int × Int × xM) : Option (Int × xM) := loop NF (fun s => f_10_L18b a1 c4 s.1 s.2.1 s.2.2.1 s.2.2.2) s
theorem t_10_L18 {rom : xRom} {d : Nat} {a1 : Nat} {c4 : Int} (h1 : Tg a1 = 7) {s : Int × Int × Int × xM} {r : Int × xM} {out : Option xV × xH} (e : f_10_L18 a1 c4 s = some r) (hK : (eIW out) r) : Rn rom (d + 4) 10 (18, [some (vR 177), some (vR a1), some (vI s.1), some (vI s.2.1), some (vI c4), some (vI s.2.2.1)], [], (G0, s.2.2.2)) out := by
  unfold f_10_L18 at e
  revert e hK
  exact R_loop (b := fun s => f_10_L18b a1 c4 s.1 s.2.1 s.2.2.1 s.2.2.2) (G := fun s => Rn rom (d + 4) 10 (18, [some (vR 177), some (vR a1), some (vI s.1), some (vI s.2.1), some (vI c4), some (vI s.2.2.1)], [], (G0, s.2.2.2)) out) (K := eIW out) (fun s r e hK => t_10_L18b h1 e hK) NF s r
/-- PedalLayers$Ear.loudestCell -/
def f_10 (M : xM) (a1 : Nat) : Option (Int × xM) :=
  (f_62 M a1 (M a1 5)).bind (fun k1 =>
  f_10_L18 a1 k1 ((-4), 0, 0, M)
  )
theorem t_10 {rom : xRom} {d : Nat} {M : xM} {a1 : Nat} (h1 : Tg a1 = 7) {r : Int × xM} {out : Option xV × xH} (e : f_10 M a1 = some r) (hK : eIW out r) : Rn rom (d + 4) 10 (0, [some (vR 177), some (vR a1), none, none, none, none], [], (G0, M)) out := by
  have hc : xkall.getD 10 [] = xk_10 := rfl
  unfold f_10 at e
  refine Rn_ms (σ' := (7, [some (vR 177), some (vR a1), some (vI (-4)), some (vI 0), none, none], [vR a1, vR a1], (G0, M))) hc 6 rfl ?_
  refine Rn_getI hc rfl h1 (by decide) (by decide) ?_
  show Rn rom (d + 4) 10 (10, [some (vR 177), some (vR a1), some (vI (-4)), some (vI 0), none, none], [vI (M a1 5), vR a1], (G0, M)) out
  refine R_bind e (fun k1 hk1 e => ?_)
  refine Rn_cv hc rfl rfl (by decide) (ii := xi_62) rfl rfl rfl (h1 : Tg _ = 7) (by decide) rfl (le := [some (vR a1), some (vI (M a1 5)), none, none, none]) rfl (v := some (vI k1)) (M' := M) (t_62 h1 (d := d + 2) hk1 rfl) ?_
  refine Rn_ms (σ' := (18, [some (vR 177), some (vR a1), some (vI (-4)), some (vI 0), some (vI k1), some (vI 0)], [], (G0, M))) hc 3 rfl ?_
  exact Rn_weak (xle_s (xle_s (xle_s (xle_s (xle_s (xle_s xle_0)))))) (t_10_L18 h1 e hK)
def f_12_L40b (M : xM) (a1 : Nat) (r4 : Nat) (c6 : Int) (c7 : Int) (v5 : Int) (v8 : Int) : Option ((Int × Int) ⊕ (Int)) :=
  if 36 ≤ wr v8 then
    some (.inr (v5))
  else
    if wr (f_30 M (r4 + 1) c7 (v8 + c6)) ≤ 0 then
      some (.inl (v5, (v8 + 1)))
    else
      gd (0 ≤ wr v8 ∧ wr v8 < 36) (
      if wr (M 178 (wr v8).toNat) ≤ wr (2 * (f_30 M (r4 + 1) c7 (v8 + c6))) then
        some (.inl (v5, (v8 + 1)))
      else
        some (.inl ((v5 + 1), (v8 + 1)))
      )
theorem t_12_L40b {rom : xRom} {d : Nat} {a1 : Nat} {r4 : Nat} {c6 : Int} {c7 : Int} {v5 : Int} {v8 : Int} {M : xM} (h1 : Tg a1 = 7) (hr4 : Tg r4 = 3) {r : (Int × Int) ⊕ (Int)} {out : Option xV × xH} (e : f_12_L40b M a1 r4 c6 c7 v5 v8 = some r) (hK : ((Sum.elim (fun s => Rn rom (d + 3) 12 (40, [some (vR 177), none, none, none, some (vR r4), some (vI s.1), some (vI c6), some (vI c7), some (vI s.2), none], [], (G0, M)) out) (eI M out))) r) : Rn rom (d + 3) 12 (40, [some (vR 177), none, none, none, some (vR r4), some (vI v5), some (vI c6), some (vI c7), some (vI v8), none], [], (G0, M)) out := by
  have hc : xkall.getD 12 [] = xk_12 := rfl
  unfold f_12_L40b at e
  refine Rn_ms (σ' := (43, [some (vR 177), none, none, none, some (vR r4), some (vI v5), some (vI c6), some (vI c7), some (vI v8), none], [vR 177, vI v8], (G0, M))) hc 2 rfl ?_
  refine Rn_getR hc rfl tgc_177 (by decide) rfl prc_177_0 ?_
  show Rn rom (d + 3) 12 (46, [some (vR 177), none, none, none, some (vR r4), some (vI v5), some (vI c6), some (vI c7), some (vI v8), none], [vR 178, vI v8], (G0, M)) out
  refine Rn_alen hc rfl rfl tgc_178 (by decide) zsc_178 ?_
  show Rn rom (d + 3) 12 (47, [some (vR 177), none, none, none, some (vR r4), some (vI v5), some (vI c6), some (vI c7), some (vI v8), none], [vI 36, vI v8], (G0, M)) out
  refine R_ite e (fun b4 e => ?_) (fun b4 e => ?_)
  · refine Rn_icT (tgt := 95) hc rfl rfl (by decide) b4 ?_
    refine Rn_ms (σ' := (97, [some (vR 177), none, none, none, some (vR r4), some (vI v5), some (vI c6), some (vI c7), some (vI v8), none], [vI v5], (G0, M))) hc 1 rfl ?_
    cases e
    exact R_end (Rn_iret hc rfl rfl (xretI rfl rfl)) hK
  · refine Rn_icF hc rfl rfl (by decide) b4 ?_
    refine Rn_ms (σ' := (52, [some (vR 177), none, none, none, some (vR r4), some (vI v5), some (vI c6), some (vI c7), some (vI v8), none], [vR r4], (G0, M))) hc 1 rfl ?_
    refine Rn_getR hc rfl hr4 (by decide) rfl (gP3_0_0 hr4) ?_
    refine Rn_ms (σ' := (62, [some (vR 177), none, none, none, some (vR r4), some (vI v5), some (vI c6), some (vI c7), some (vI v8), none], [vI (v8 + c6), vI c7, vR (r4 + 1)], (G0, M))) hc 4 rfl ?_
    refine Rn_cv hc rfl rfl (by decide) (ii := xi_30) rfl rfl rfl ((gT3_1 hr4) : Tg _ = 4) (by decide) rfl (le := [some (vR (r4 + 1)), some (vI c7), some (vI (v8 + c6)), none]) rfl (v := some (vI (f_30 M (r4 + 1) c7 (v8 + c6)))) (M' := M) (t_30 (gT3_1 hr4) (d := d + 1) rfl rfl) ?_
    refine Rn_ms (σ' := (69, [some (vR 177), none, none, none, some (vR r4), some (vI v5), some (vI c6), some (vI c7), some (vI v8), some (vI (f_30 M (r4 + 1) c7 (v8 + c6)))], [vI (f_30 M (r4 + 1) c7 (v8 + c6))], (G0, M))) hc 2 rfl ?_
    refine R_ite e (fun b5 e => ?_) (fun b5 e => ?_)
    · refine Rn_ifT (tgt := 89) hc rfl rfl (by decide) b5 ?_
      refine Rn_ms (σ' := (40, [some (vR 177), none, none, none, some (vR r4), some (vI v5), some (vI c6), some (vI c7), some (vI (v8 + 1)), some (vI (f_30 M (r4 + 1) c7 (v8 + c6)))], [], (G0, M))) hc 2 rfl ?_
      cases e
      exact Rn_weak (xle_s (xle_s (xle_s (xle_s (xle_s (xle_s (xle_s (xle_s (xle_s (xle_n xle_0)))))))))) hK
    · refine Rn_ifF hc rfl rfl (by decide) b5 ?_
      refine Rn_ms (σ' := (77, [some (vR 177), none, none, none, some (vR r4), some (vI v5), some (vI c6), some (vI c7), some (vI v8), some (vI (f_30 M (r4 + 1) c7 (v8 + c6)))], [vR 177, vI (2 * (f_30 M (r4 + 1) c7 (v8 + c6)))], (G0, M))) hc 4 rfl ?_
      refine Rn_getR hc rfl tgc_177 (by decide) rfl prc_177_0 ?_
      refine Rn_ms (σ' := (82, [some (vR 177), none, none, none, some (vR r4), some (vI v5), some (vI c6), some (vI c7), some (vI v8), some (vI (f_30 M (r4 + 1) c7 (v8 + c6)))], [vI v8, vR 178, vI (2 * (f_30 M (r4 + 1) c7 (v8 + c6)))], (G0, M))) hc 1 rfl ?_
      refine R_gd e (fun g6 e => ?_)
      refine Rn_iald hc rfl rfl tgc_178 zsc_178 g6 rfl ?_
      show Rn rom (d + 3) 12 (83, [some (vR 177), none, none, none, some (vR r4), some (vI v5), some (vI c6), some (vI c7), some (vI v8), some (vI (f_30 M (r4 + 1) c7 (v8 + c6)))], [vI (M 178 (wr v8).toNat), vI (2 * (f_30 M (r4 + 1) c7 (v8 + c6)))], (G0, M)) out
      refine R_ite e (fun b7 e => ?_) (fun b7 e => ?_)
      · refine Rn_icT (tgt := 89) hc rfl rfl (by decide) b7 ?_
        refine Rn_ms (σ' := (40, [some (vR 177), none, none, none, some (vR r4), some (vI v5), some (vI c6), some (vI c7), some (vI (v8 + 1)), some (vI (f_30 M (r4 + 1) c7 (v8 + c6)))], [], (G0, M))) hc 2 rfl ?_
        cases e
        exact Rn_weak (xle_s (xle_s (xle_s (xle_s (xle_s (xle_s (xle_s (xle_s (xle_s (xle_n xle_0)))))))))) hK
      · refine Rn_icF hc rfl rfl (by decide) b7 ?_
        refine Rn_ms (σ' := (40, [some (vR 177), none, none, none, some (vR r4), some (vI (v5 + 1)), some (vI c6), some (vI c7), some (vI (v8 + 1)), some (vI (f_30 M (r4 + 1) c7 (v8 + c6)))], [], (G0, M))) hc 3 rfl ?_
        cases e
        exact Rn_weak (xle_s (xle_s (xle_s (xle_s (xle_s (xle_s (xle_s (xle_s (xle_s (xle_n xle_0)))))))))) hK
def f_12_L40 (M : xM) (a1 : Nat) (r4 : Nat) (c6 : Int) (c7 : Int) (s : Int × Int) : Option (Int) := loop NF (fun s => f_12_L40b M a1 r4 c6 c7 s.1 s.2) s
theorem t_12_L40 {rom : xRom} {d : Nat} {a1 : Nat} {r4 : Nat} {c6 : Int} {c7 : Int} {M : xM} (h1 : Tg a1 = 7) (hr4 : Tg r4 = 3) {s : Int × Int} {r : Int} {out : Option xV × xH} (e : f_12_L40 M a1 r4 c6 c7 s = some r) (hK : (eI M out) r) : Rn rom (d + 3) 12 (40, [some (vR 177), none, none, none, some (vR r4), some (vI s.1), some (vI c6), some (vI c7), some (vI s.2), none], [], (G0, M)) out := by
  unfold f_12_L40 at e
  revert e hK
  exact R_loop (b := fun s => f_12_L40b M a1 r4 c6 c7 s.1 s.2) (G := fun s => Rn rom (d + 3) 12 (40, [some (vR 177), none, none, none, some (vR r4), some (vI s.1), some (vI c6), some (vI c7), some (vI s.2), none], [], (G0, M)) out) (K := eI M out) (fun s r e hK => t_12_L40b h1 hr4 e hK) NF s r
/-- PedalLayers$Ear.buriedOf -/
def f_12 (M : xM) (a1 : Nat) (a2 : Int) (a3 : Int) : Option (Int) :=
  (f_66 M a1 a2).bind (fun k1 =>
  if k1 = 0 then
    some (0)
  else
    gd (Tg k1 = 3) (
    f_12_L40 M a1 k1 (f_65 M a1) (f_134 a3 (f_29 M (k1 + 1))) (0, 0)
    )
  )
theorem t_12 {rom : xRom} {d : Nat} {M : xM} {a1 : Nat} {a2 : Int} {a3 : Int} (h1 : Tg a1 = 7) {r : Int} {out : Option xV × xH} (e : f_12 M a1 a2 a3 = some r) (hK : eI M out r) : Rn rom (d + 3) 12 (0, [some (vR 177), some (vR a1), some (vI a2), some (vI a3), none, none, none, none, none, none], [], (G0, M)) out := by
  have hc : xkall.getD 12 [] = xk_12 := rfl
  unfold f_12 at e
  refine Rn_ms (σ' := (2, [some (vR 177), some (vR a1), some (vI a2), some (vI a3), none, none, none, none, none, none], [vI a2, vR a1], (G0, M))) hc 2 rfl ?_
  refine R_bind e (fun k1 hk1 e => ?_)
  refine Rn_cv hc rfl rfl (by decide) (ii := xi_66) rfl rfl rfl (h1 : Tg _ = 7) (by decide) rfl (le := [some (vR a1), some (vI a2), none]) rfl (v := some (vR k1)) (M' := M) (t_66 h1 (d := d + 0) hk1 rfl) ?_
  refine Rn_ms (σ' := (9, [some (vR 177), some (vR a1), some (vI a2), some (vI a3), some (vR k1), none, none, none, none, none], [vR k1], (G0, M))) hc 2 rfl ?_
  refine R_ite e (fun b2 e => ?_) (fun b2 e => ?_)
  · refine Rn_nnF hc rfl rfl (by decide) b2 ?_
    refine Rn_ms (σ' := (13, [some (vR 177), some (vR a1), some (vI a2), some (vI a3), some (vR k1), none, none, none, none, none], [vI 0], (G0, M))) hc 1 rfl ?_
    cases e
    exact R_end (Rn_iret hc rfl rfl (xretI rfl rfl)) hK
  · refine Rn_nnT (tgt := 14) hc rfl rfl (by decide) b2 ?_
    refine Rn_ms (σ' := (18, [some (vR 177), some (vR a1), some (vI a2), some (vI a3), some (vR k1), some (vI 0), none, none, none, none], [vR a1], (G0, M))) hc 3 rfl ?_
    refine Rn_cv hc rfl rfl (by decide) (ii := xi_65) rfl rfl rfl (h1 : Tg _ = 7) (by decide) rfl (le := [some (vR a1)]) rfl (v := some (vI (f_65 M a1))) (M' := M) (t_65 h1 (d := d + 2) rfl rfl) ?_
    refine Rn_ms (σ' := (26, [some (vR 177), some (vR a1), some (vI a2), some (vI a3), some (vR k1), some (vI 0), some (vI (f_65 M a1)), none, none, none], [vR k1, vI a3], (G0, M))) hc 3 rfl ?_
    refine R_gd e (fun g3 e => ?_)
    refine Rn_getR hc rfl g3 (by decide) rfl (gP3_0_0 g3) ?_
    show Rn rom (d + 3) 12 (29, [some (vR 177), some (vR a1), some (vI a2), some (vI a3), some (vR k1), some (vI 0), some (vI (f_65 M a1)), none, none, none], [vR (k1 + 1), vI a3], (G0, M)) out
    refine Rn_cv hc rfl rfl (by decide) (ii := xi_29) rfl rfl rfl ((gT3_1 g3) : Tg _ = 4) (by decide) rfl (le := [some (vR (k1 + 1))]) rfl (v := some (vI (f_29 M (k1 + 1)))) (M' := M) (t_29 (gT3_1 g3) (d := d + 2) rfl rfl) ?_
    show Rn rom (d + 3) 12 (32, [some (vR 177), some (vR a1), some (vI a2), some (vI a3), some (vR k1), some (vI 0), some (vI (f_65 M a1)), none, none, none], [vI (f_29 M (k1 + 1)), vI a3], (G0, M)) out
    refine Rn_cs hc rfl rfl (by decide) (ii := xi_134) rfl rfl rfl (le := [some (vI a3), some (vI (f_29 M (k1 + 1)))]) rfl (v := some (vI (f_134 a3 (f_29 M (k1 + 1))))) (M' := M) (t_134  (d := d + 2) rfl rfl) ?_
    refine Rn_ms (σ' := (40, [some (vR 177), some (vR a1), some (vI a2), some (vI a3), some (vR k1), some (vI 0), some (vI (f_65 M a1)), some (vI (f_134 a3 (f_29 M (k1 + 1)))), some (vI 0), none], [], (G0, M))) hc 3 rfl ?_
    exact Rn_weak (xle_s (xle_n (xle_n (xle_n (xle_s (xle_s (xle_s (xle_s (xle_s (xle_s xle_0)))))))))) (t_12_L40 h1 g3 e hK)
def f_11_L102b (M : xM) (a1 : Nat) (v3 : Int) (v4 : Int) (v5 : Int) : Option ((Int × Int × Int) ⊕ (Int × xM)) :=
  if 6 ≤ wr v5 then
    some (.inr ((v4, M)))
  else
    gd (0 ≤ wr v5 ∧ wr v5 < 6) (
    if wr (M 179 (wr v5).toNat) ≤ wr v3 then
      some (.inl (v3, v4, (v5 + 1)))
    else
      gd (0 ≤ wr v5 ∧ wr v5 < 6) (
      some (.inl ((M 179 (wr v5).toNat), v5, (v5 + 1)))
      )
    )
theorem t_11_L102b {rom : xRom} {d : Nat} {a1 : Nat} {v3 : Int} {v4 : Int} {v5 : Int} {M : xM} (h1 : Tg a1 = 7) {r : (Int × Int × Int) ⊕ (Int × xM)} {out : Option xV × xH} (e : f_11_L102b M a1 v3 v4 v5 = some r) (hK : ((Sum.elim (fun s => Rn rom (d + 4) 11 (102, [some (vR 177), none, none, some (vI s.1), some (vI s.2.1), some (vI s.2.2)], [], (G0, M)) out) (eIW out))) r) : Rn rom (d + 4) 11 (102, [some (vR 177), none, none, some (vI v3), some (vI v4), some (vI v5)], [], (G0, M)) out := by
  have hc : xkall.getD 11 [] = xk_11 := rfl
  unfold f_11_L102b at e
  refine Rn_ms (σ' := (105, [some (vR 177), none, none, some (vI v3), some (vI v4), some (vI v5)], [vR 177, vI v5], (G0, M))) hc 2 rfl ?_
  refine Rn_getR hc rfl tgc_177 (by decide) rfl prc_177_1 ?_
  show Rn rom (d + 4) 11 (108, [some (vR 177), none, none, some (vI v3), some (vI v4), some (vI v5)], [vR 179, vI v5], (G0, M)) out
  refine Rn_alen hc rfl rfl tgc_179 (by decide) zsc_179 ?_
  show Rn rom (d + 4) 11 (109, [some (vR 177), none, none, some (vI v3), some (vI v4), some (vI v5)], [vI 6, vI v5], (G0, M)) out
  refine R_ite e (fun b4 e => ?_) (fun b4 e => ?_)
  · refine Rn_icT (tgt := 141) hc rfl rfl (by decide) b4 ?_
    refine Rn_ms (σ' := (143, [some (vR 177), none, none, some (vI v3), some (vI v4), some (vI v5)], [vI v4], (G0, M))) hc 1 rfl ?_
    cases e
    exact R_end (Rn_iret hc rfl rfl (xretI rfl rfl)) hK
  · refine Rn_icF hc rfl rfl (by decide) b4 ?_
    refine Rn_ms (σ' := (113, [some (vR 177), none, none, some (vI v3), some (vI v4), some (vI v5)], [vR 177], (G0, M))) hc 1 rfl ?_
    refine Rn_getR hc rfl tgc_177 (by decide) rfl prc_177_1 ?_
    refine Rn_ms (σ' := (118, [some (vR 177), none, none, some (vI v3), some (vI v4), some (vI v5)], [vI v5, vR 179], (G0, M))) hc 1 rfl ?_
    refine R_gd e (fun g5 e => ?_)
    refine Rn_iald hc rfl rfl tgc_179 zsc_179 g5 rfl ?_
    refine Rn_ms (σ' := (120, [some (vR 177), none, none, some (vI v3), some (vI v4), some (vI v5)], [vI v3, vI (M 179 (wr v5).toNat)], (G0, M))) hc 1 rfl ?_
    refine R_ite e (fun b6 e => ?_) (fun b6 e => ?_)
    · refine Rn_icT (tgt := 135) hc rfl rfl (by decide) b6 ?_
      refine Rn_ms (σ' := (102, [some (vR 177), none, none, some (vI v3), some (vI v4), some (vI (v5 + 1))], [], (G0, M))) hc 2 rfl ?_
      cases e
      exact Rn_weak (xle_s (xle_s (xle_s (xle_s (xle_s (xle_s xle_0)))))) hK
    · refine Rn_icF hc rfl rfl (by decide) b6 ?_
      refine Rn_ms (σ' := (124, [some (vR 177), none, none, some (vI v3), some (vI v4), some (vI v5)], [vR 177], (G0, M))) hc 1 rfl ?_
      refine Rn_getR hc rfl tgc_177 (by decide) rfl prc_177_1 ?_
      refine Rn_ms (σ' := (129, [some (vR 177), none, none, some (vI v3), some (vI v4), some (vI v5)], [vI v5, vR 179], (G0, M))) hc 1 rfl ?_
      refine R_gd e (fun g7 e => ?_)
      refine Rn_iald hc rfl rfl tgc_179 zsc_179 g7 rfl ?_
      refine Rn_ms (σ' := (102, [some (vR 177), none, none, some (vI (M 179 (wr v5).toNat)), some (vI v5), some (vI (v5 + 1))], [], (G0, M))) hc 5 rfl ?_
      cases e
      exact Rn_weak (xle_s (xle_s (xle_s (xle_s (xle_s (xle_s xle_0)))))) hK
def f_11_L102 (M : xM) (a1 : Nat) (s : Int × Int × Int) : Option (Int × xM) := loop NF (fun s => f_11_L102b M a1 s.1 s.2.1 s.2.2) s
theorem t_11_L102 {rom : xRom} {d : Nat} {a1 : Nat} {M : xM} (h1 : Tg a1 = 7) {s : Int × Int × Int} {r : Int × xM} {out : Option xV × xH} (e : f_11_L102 M a1 s = some r) (hK : (eIW out) r) : Rn rom (d + 4) 11 (102, [some (vR 177), none, none, some (vI s.1), some (vI s.2.1), some (vI s.2.2)], [], (G0, M)) out := by
  unfold f_11_L102 at e
  revert e hK
  exact R_loop (b := fun s => f_11_L102b M a1 s.1 s.2.1 s.2.2) (G := fun s => Rn rom (d + 4) 11 (102, [some (vR 177), none, none, some (vI s.1), some (vI s.2.1), some (vI s.2.2)], [], (G0, M)) out) (K := eIW out) (fun s r e hK => t_11_L102b h1 e hK) NF s r
def f_11_L53b (a1 : Nat) (c2 : Int) (c3 : Int) (v4 : Int) (M : xM) : Option ((Int × xM) ⊕ ((Int × xM) ⊕ (Int × xM))) :=
  if 6 ≤ wr v4 then
    some (.inr (.inl ((c3 + 1), M)))
  else
    gd (0 ≤ wr v4 ∧ wr v4 < 6) (
    (f_12 M a1 v4 c3).bind (fun k11 =>
    gd (0 ≤ wr v4 ∧ wr v4 < 6) (
    bnd (xset M 179 (wr v4).toNat ((M 179 (wr v4).toNat) + k11)) (fun M13 =>
    some (.inl ((v4 + 1), M13))
    ))))
theorem t_11_L53b {rom : xRom} {d : Nat} {a1 : Nat} {c2 : Int} {c3 : Int} {v4 : Int} {M : xM} (h1 : Tg a1 = 7) {r : (Int × xM) ⊕ ((Int × xM) ⊕ (Int × xM))} {out : Option xV × xH} (e : f_11_L53b a1 c2 c3 v4 M = some r) (hK : ((Sum.elim (fun s => Rn rom (d + 4) 11 (53, [some (vR 177), some (vR a1), some (vI c2), some (vI c3), some (vI s.1), none], [], (G0, s.2)) out) ((Sum.elim (fun s => Rn rom (d + 4) 11 (35, [some (vR 177), some (vR a1), some (vI c2), some (vI s.1), none, none], [], (G0, s.2)) out) (eIW out))))) r) : Rn rom (d + 4) 11 (53, [some (vR 177), some (vR a1), some (vI c2), some (vI c3), some (vI v4), none], [], (G0, M)) out := by
  have hc : xkall.getD 11 [] = xk_11 := rfl
  unfold f_11_L53b at e
  refine Rn_ms (σ' := (56, [some (vR 177), some (vR a1), some (vI c2), some (vI c3), some (vI v4), none], [vR 177, vI v4], (G0, M))) hc 2 rfl ?_
  refine Rn_getR hc rfl tgc_177 (by decide) rfl prc_177_1 ?_
  show Rn rom (d + 4) 11 (59, [some (vR 177), some (vR a1), some (vI c2), some (vI c3), some (vI v4), none], [vR 179, vI v4], (G0, M)) out
  refine Rn_alen hc rfl rfl tgc_179 (by decide) zsc_179 ?_
  show Rn rom (d + 4) 11 (60, [some (vR 177), some (vR a1), some (vI c2), some (vI c3), some (vI v4), none], [vI 6, vI v4], (G0, M)) out
  refine R_ite e (fun b9 e => ?_) (fun b9 e => ?_)
  · refine Rn_icT (tgt := 87) hc rfl rfl (by decide) b9 ?_
    refine Rn_ms (σ' := (35, [some (vR 177), some (vR a1), some (vI c2), some (vI (c3 + 1)), some (vI v4), none], [], (G0, M))) hc 2 rfl ?_
    cases e
    exact Rn_weak (xle_s (xle_s (xle_s (xle_s (xle_n (xle_s xle_0)))))) hK
  · refine Rn_icF hc rfl rfl (by decide) b9 ?_
    refine Rn_ms (σ' := (64, [some (vR 177), some (vR a1), some (vI c2), some (vI c3), some (vI v4), none], [vR 177], (G0, M))) hc 1 rfl ?_
    refine Rn_getR hc rfl tgc_177 (by decide) rfl prc_177_1 ?_
    refine Rn_ms (σ' := (70, [some (vR 177), some (vR a1), some (vI c2), some (vI c3), some (vI v4), none], [vI v4, vR 179, vI v4, vR 179], (G0, M))) hc 2 rfl ?_
    refine R_gd e (fun g10 e => ?_)
    refine Rn_iald hc rfl rfl tgc_179 zsc_179 g10 rfl ?_
    refine Rn_ms (σ' := (76, [some (vR 177), some (vR a1), some (vI c2), some (vI c3), some (vI v4), none], [vI c3, vI v4, vR a1, vR 177, vI (M 179 (wr v4).toNat), vI v4, vR 179], (G0, M))) hc 4 rfl ?_
    refine R_bind e (fun k11 hk11 e => ?_)
    refine Rn_cv hc rfl rfl (by decide) (ii := xi_12) rfl rfl rfl (tgc_177 : Tg _ = 0) (by decide) rfl (le := [some (vR 177), some (vR a1), some (vI v4), some (vI c3), none, none, none, none, none, none]) rfl (v := some (vI k11)) (M' := M) (t_12 h1 (d := d + 0) hk11 rfl) ?_
    refine Rn_ms (σ' := (80, [some (vR 177), some (vR a1), some (vI c2), some (vI c3), some (vI v4), none], [vI ((M 179 (wr v4).toNat) + k11), vI v4, vR 179], (G0, M))) hc 1 rfl ?_
    refine R_gd e (fun g12 e => ?_)
    refine R_bnd e (fun M13 hM13 e => ?_)
    refine Rn_iast' hM13 hc rfl rfl tgc_179 zsc_179 g12 rfl ?_
    refine Rn_ms (σ' := (53, [some (vR 177), some (vR a1), some (vI c2), some (vI c3), some (vI (v4 + 1)), none], [], (G0, M13))) hc 2 rfl ?_
    cases e
    exact Rn_weak (xle_s (xle_s (xle_s (xle_s (xle_s (xle_s xle_0)))))) hK
def f_11_L53 (a1 : Nat) (c2 : Int) (c3 : Int) (s : Int × xM) : Option ((Int × xM) ⊕ (Int × xM)) := loop NF (fun s => f_11_L53b a1 c2 c3 s.1 s.2) s
theorem t_11_L53 {rom : xRom} {d : Nat} {a1 : Nat} {c2 : Int} {c3 : Int} (h1 : Tg a1 = 7) {s : Int × xM} {r : (Int × xM) ⊕ (Int × xM)} {out : Option xV × xH} (e : f_11_L53 a1 c2 c3 s = some r) (hK : ((Sum.elim (fun s => Rn rom (d + 4) 11 (35, [some (vR 177), some (vR a1), some (vI c2), some (vI s.1), none, none], [], (G0, s.2)) out) (eIW out))) r) : Rn rom (d + 4) 11 (53, [some (vR 177), some (vR a1), some (vI c2), some (vI c3), some (vI s.1), none], [], (G0, s.2)) out := by
  unfold f_11_L53 at e
  revert e hK
  exact R_loop (b := fun s => f_11_L53b a1 c2 c3 s.1 s.2) (G := fun s => Rn rom (d + 4) 11 (53, [some (vR 177), some (vR a1), some (vI c2), some (vI c3), some (vI s.1), none], [], (G0, s.2)) out) (K := (Sum.elim (fun s => Rn rom (d + 4) 11 (35, [some (vR 177), some (vR a1), some (vI c2), some (vI s.1), none, none], [], (G0, s.2)) out) (eIW out))) (fun s r e hK => t_11_L53b h1 e hK) NF s r
def f_11_L35b (a1 : Nat) (c2 : Int) (v3 : Int) (M : xM) : Option ((Int × xM) ⊕ (Int × xM)) :=
  if wr c2 ≤ wr v3 then
    (f_11_L102 M a1 (0, (-4), 0)).bind (fun o => some (.inr (o)))
  else
    (f_1 M a1 (M a1 5) v3).bind (fun k8 =>
    f_11_L53 a1 c2 v3 (0, k8)
    )
theorem t_11_L35b {rom : xRom} {d : Nat} {a1 : Nat} {c2 : Int} {v3 : Int} {M : xM} (h1 : Tg a1 = 7) {r : (Int × xM) ⊕ (Int × xM)} {out : Option xV × xH} (e : f_11_L35b a1 c2 v3 M = some r) (hK : ((Sum.elim (fun s => Rn rom (d + 4) 11 (35, [some (vR 177), some (vR a1), some (vI c2), some (vI s.1), none, none], [], (G0, s.2)) out) (eIW out))) r) : Rn rom (d + 4) 11 (35, [some (vR 177), some (vR a1), some (vI c2), some (vI v3), none, none], [], (G0, M)) out := by
  have hc : xkall.getD 11 [] = xk_11 := rfl
  unfold f_11_L35b at e
  refine Rn_ms (σ' := (37, [some (vR 177), some (vR a1), some (vI c2), some (vI v3), none, none], [vI c2, vI v3], (G0, M))) hc 2 rfl ?_
  refine R_ite e (fun b3 e => ?_) (fun b3 e => ?_)
  · refine Rn_icT (tgt := 93) hc rfl rfl (by decide) b3 ?_
    refine Rn_ms (σ' := (102, [some (vR 177), some (vR a1), some (vI c2), some (vI 0), some (vI (-4)), some (vI 0)], [], (G0, M))) hc 6 rfl ?_
    refine R_bind e (fun o ho e => ?_)
    cases e
    exact Rn_weak (xle_s (xle_n (xle_n (xle_s (xle_s (xle_s xle_0)))))) (t_11_L102 h1 ho hK)
  · refine Rn_icF hc rfl rfl (by decide) b3 ?_
    refine Rn_ms (σ' := (43, [some (vR 177), some (vR a1), some (vI c2), some (vI v3), none, none], [vR a1, vR a1, vR 177], (G0, M))) hc 3 rfl ?_
    refine Rn_getI hc rfl h1 (by decide) (by decide) ?_
    refine Rn_ms (σ' := (47, [some (vR 177), some (vR a1), some (vI c2), some (vI v3), none, none], [vI v3, vI (M a1 5), vR a1, vR 177], (G0, M))) hc 1 rfl ?_
    refine R_bind e (fun k8 hk8 e => ?_)
    refine Rn_cv hc rfl rfl (by decide) (ii := xi_1) rfl rfl rfl (tgc_177 : Tg _ = 0) (by decide) rfl (le := [some (vR 177), some (vR a1), some (vI (M a1 5)), some (vI v3), none, none, none, none, none]) rfl (v := none) (M' := k8) (t_1 h1 (d := d + 0) hk8 rfl) ?_
    refine Rn_ms (σ' := (53, [some (vR 177), some (vR a1), some (vI c2), some (vI v3), some (vI 0), none], [], (G0, k8))) hc 2 rfl ?_
    exact Rn_weak (xle_s (xle_s (xle_s (xle_s (xle_s (xle_s xle_0)))))) (t_11_L53 h1 e hK)
def f_11_L35 (a1 : Nat) (c2 : Int) (s : Int × xM) : Option (Int × xM) := loop NF (fun s => f_11_L35b a1 c2 s.1 s.2) s
theorem t_11_L35 {rom : xRom} {d : Nat} {a1 : Nat} {c2 : Int} (h1 : Tg a1 = 7) {s : Int × xM} {r : Int × xM} {out : Option xV × xH} (e : f_11_L35 a1 c2 s = some r) (hK : (eIW out) r) : Rn rom (d + 4) 11 (35, [some (vR 177), some (vR a1), some (vI c2), some (vI s.1), none, none], [], (G0, s.2)) out := by
  unfold f_11_L35 at e
  revert e hK
  exact R_loop (b := fun s => f_11_L35b a1 c2 s.1 s.2) (G := fun s => Rn rom (d + 4) 11 (35, [some (vR 177), some (vR a1), some (vI c2), some (vI s.1), none, none], [], (G0, s.2)) out) (K := eIW out) (fun s r e hK => t_11_L35b h1 e hK) NF s r
def f_11_L2b (a1 : Nat) (v2 : Int) (M : xM) : Option ((Int × xM) ⊕ (Int × xM)) :=
  if 6 ≤ wr v2 then
    (f_62 M a1 (M a1 5)).bind (fun k2 =>
    (f_11_L35 a1 k2 (0, M)).bind (fun o => some (.inr (o)))
    )
  else
    gd (0 ≤ wr v2 ∧ wr v2 < 6) (
    bnd (xset M 179 (wr v2).toNat 0) (fun M15 =>
    some (.inl ((v2 + 1), M15))
    ))
theorem t_11_L2b {rom : xRom} {d : Nat} {a1 : Nat} {v2 : Int} {M : xM} (h1 : Tg a1 = 7) {r : (Int × xM) ⊕ (Int × xM)} {out : Option xV × xH} (e : f_11_L2b a1 v2 M = some r) (hK : ((Sum.elim (fun s => Rn rom (d + 4) 11 (2, [some (vR 177), some (vR a1), some (vI s.1), none, none, none], [], (G0, s.2)) out) (eIW out))) r) : Rn rom (d + 4) 11 (2, [some (vR 177), some (vR a1), some (vI v2), none, none, none], [], (G0, M)) out := by
  have hc : xkall.getD 11 [] = xk_11 := rfl
  unfold f_11_L2b at e
  refine Rn_ms (σ' := (4, [some (vR 177), some (vR a1), some (vI v2), none, none, none], [vR 177, vI v2], (G0, M))) hc 2 rfl ?_
  refine Rn_getR hc rfl tgc_177 (by decide) rfl prc_177_1 ?_
  show Rn rom (d + 4) 11 (7, [some (vR 177), some (vR a1), some (vI v2), none, none, none], [vR 179, vI v2], (G0, M)) out
  refine Rn_alen hc rfl rfl tgc_179 (by decide) zsc_179 ?_
  show Rn rom (d + 4) 11 (8, [some (vR 177), some (vR a1), some (vI v2), none, none, none], [vI 6, vI v2], (G0, M)) out
  refine R_ite e (fun b1 e => ?_) (fun b1 e => ?_)
  · refine Rn_icT (tgt := 24) hc rfl rfl (by decide) b1 ?_
    refine Rn_ms (σ' := (26, [some (vR 177), some (vR a1), some (vI v2), none, none, none], [vR a1, vR a1], (G0, M))) hc 2 rfl ?_
    refine Rn_getI hc rfl h1 (by decide) (by decide) ?_
    show Rn rom (d + 4) 11 (29, [some (vR 177), some (vR a1), some (vI v2), none, none, none], [vI (M a1 5), vR a1], (G0, M)) out
    refine R_bind e (fun k2 hk2 e => ?_)
    refine Rn_cv hc rfl rfl (by decide) (ii := xi_62) rfl rfl rfl (h1 : Tg _ = 7) (by decide) rfl (le := [some (vR a1), some (vI (M a1 5)), none, none, none]) rfl (v := some (vI k2)) (M' := M) (t_62 h1 (d := d + 2) hk2 rfl) ?_
    refine Rn_ms (σ' := (35, [some (vR 177), some (vR a1), some (vI k2), some (vI 0), none, none], [], (G0, M))) hc 3 rfl ?_
    refine R_bind e (fun o ho e => ?_)
    cases e
    exact Rn_weak (xle_s (xle_s (xle_s (xle_s (xle_s (xle_s xle_0)))))) (t_11_L35 h1 ho hK)
  · refine Rn_icF hc rfl rfl (by decide) b1 ?_
    refine Rn_ms (σ' := (12, [some (vR 177), some (vR a1), some (vI v2), none, none, none], [vR 177], (G0, M))) hc 1 rfl ?_
    refine Rn_getR hc rfl tgc_177 (by decide) rfl prc_177_1 ?_
    refine Rn_ms (σ' := (17, [some (vR 177), some (vR a1), some (vI v2), none, none, none], [vI 0, vI v2, vR 179], (G0, M))) hc 2 rfl ?_
    refine R_gd e (fun g14 e => ?_)
    refine R_bnd e (fun M15 hM15 e => ?_)
    refine Rn_iast' hM15 hc rfl rfl tgc_179 zsc_179 g14 rfl ?_
    refine Rn_ms (σ' := (2, [some (vR 177), some (vR a1), some (vI (v2 + 1)), none, none, none], [], (G0, M15))) hc 2 rfl ?_
    cases e
    exact Rn_weak (xle_s (xle_s (xle_s (xle_s (xle_s (xle_s xle_0)))))) hK
def f_11_L2 (a1 : Nat) (s : Int × xM) : Option (Int × xM) := loop NF (fun s => f_11_L2b a1 s.1 s.2) s
theorem t_11_L2 {rom : xRom} {d : Nat} {a1 : Nat} (h1 : Tg a1 = 7) {s : Int × xM} {r : Int × xM} {out : Option xV × xH} (e : f_11_L2 a1 s = some r) (hK : (eIW out) r) : Rn rom (d + 4) 11 (2, [some (vR 177), some (vR a1), some (vI s.1), none, none, none], [], (G0, s.2)) out := by
  unfold f_11_L2 at e
  revert e hK
  exact R_loop (b := fun s => f_11_L2b a1 s.1 s.2) (G := fun s => Rn rom (d + 4) 11 (2, [some (vR 177), some (vR a1), some (vI s.1), none, none, none], [], (G0, s.2)) out) (K := eIW out) (fun s r e hK => t_11_L2b h1 e hK) NF s r
/-- PedalLayers$Ear.mostBuriedLayer -/
def f_11 (M : xM) (a1 : Nat) : Option (Int × xM) :=
  f_11_L2 a1 (0, M)
theorem t_11 {rom : xRom} {d : Nat} {M : xM} {a1 : Nat} (h1 : Tg a1 = 7) {r : Int × xM} {out : Option xV × xH} (e : f_11 M a1 = some r) (hK : eIW out r) : Rn rom (d + 4) 11 (0, [some (vR 177), some (vR a1), none, none, none, none], [], (G0, M)) out := by
  have hc : xkall.getD 11 [] = xk_11 := rfl
  unfold f_11 at e
  refine Rn_ms (σ' := (2, [some (vR 177), some (vR a1), some (vI 0), none, none, none], [], (G0, M))) hc 2 rfl ?_
  exact Rn_weak (xle_s (xle_s (xle_s (xle_s (xle_s (xle_s xle_0)))))) (t_11_L2 h1 e hK)
/-- PedalLayers$Pad.signAt -/
def f_47 (M : xM) (a1 : Int) : Option (Int) :=
  if wr a1 < 0 then
    some (0)
  else
    if wr (M 172 1) ≤ wr a1 then
      some (0)
    else
      if 60 ≤ wr a1 then
        some (0)
      else
        gd (0 ≤ wr (M 173 (wr a1).toNat) ∧ wr (M 173 (wr a1).toNat) < 65536) (
        some (M 173 (wr a1).toNat)
        )
theorem t_47 {rom : xRom} {d : Nat} {M : xM} {a1 : Int} {r : Int} {out : Option xV × xH} (e : f_47 M a1 = some r) (hK : eI M out r) : Rn rom (d + 0) 47 (0, [some (vR 172), some (vI a1)], [], (G0, M)) out := by
  have hc : xkall.getD 47 [] = xk_47 := rfl
  unfold f_47 at e
  refine Rn_ms (σ' := (1, [some (vR 172), some (vI a1)], [vI a1], (G0, M))) hc 1 rfl ?_
  refine R_ite e (fun b1 e => ?_) (fun b1 e => ?_)
  · refine Rn_ifT (tgt := 30) hc rfl rfl (by decide) b1 ?_
    refine Rn_ms (σ' := (31, [some (vR 172), some (vI a1)], [vI 0], (G0, M))) hc 1 rfl ?_
    cases e
    exact R_end (Rn_iret hc rfl rfl (xretC rfl rfl (by decide))) hK
  · refine Rn_ifF hc rfl rfl (by decide) b1 ?_
    refine Rn_ms (σ' := (6, [some (vR 172), some (vI a1)], [vR 172, vI a1], (G0, M))) hc 2 rfl ?_
    refine Rn_getI hc rfl tgc_172 (by decide) (by decide) ?_
    show Rn rom (d + 0) 47 (9, [some (vR 172), some (vI a1)], [vI (M 172 1), vI a1], (G0, M)) out
    refine R_ite e (fun b2 e => ?_) (fun b2 e => ?_)
    · refine Rn_icT (tgt := 30) hc rfl rfl (by decide) b2 ?_
      refine Rn_ms (σ' := (31, [some (vR 172), some (vI a1)], [vI 0], (G0, M))) hc 1 rfl ?_
      cases e
      exact R_end (Rn_iret hc rfl rfl (xretC rfl rfl (by decide))) hK
    · refine Rn_icF hc rfl rfl (by decide) b2 ?_
      refine Rn_ms (σ' := (14, [some (vR 172), some (vI a1)], [vR 172, vI a1], (G0, M))) hc 2 rfl ?_
      refine Rn_getR hc rfl tgc_172 (by decide) rfl prc_172_0 ?_
      show Rn rom (d + 0) 47 (17, [some (vR 172), some (vI a1)], [vR 173, vI a1], (G0, M)) out
      refine Rn_alen hc rfl rfl tgc_173 (by decide) zsc_173 ?_
      show Rn rom (d + 0) 47 (18, [some (vR 172), some (vI a1)], [vI 60, vI a1], (G0, M)) out
      refine R_ite e (fun b3 e => ?_) (fun b3 e => ?_)
      · refine Rn_icT (tgt := 30) hc rfl rfl (by decide) b3 ?_
        refine Rn_ms (σ' := (31, [some (vR 172), some (vI a1)], [vI 0], (G0, M))) hc 1 rfl ?_
        cases e
        exact R_end (Rn_iret hc rfl rfl (xretC rfl rfl (by decide))) hK
      · refine Rn_icF hc rfl rfl (by decide) b3 ?_
        refine Rn_ms (σ' := (22, [some (vR 172), some (vI a1)], [vR 172], (G0, M))) hc 1 rfl ?_
        refine Rn_getR hc rfl tgc_172 (by decide) rfl prc_172_0 ?_
        refine Rn_ms (σ' := (26, [some (vR 172), some (vI a1)], [vI a1, vR 173], (G0, M))) hc 1 rfl ?_
        refine Rn_cald hc rfl rfl tgc_173 zsc_173 (by omega) rfl ?_
        refine Rn_ms (σ' := (31, [some (vR 172), some (vI a1)], [vI (M 173 (wr a1).toNat)], (G0, M))) hc 1 rfl ?_
        refine R_gd e (fun g4 e => ?_)
        cases e
        exact R_end (Rn_iret hc rfl rfl (xretC rfl rfl g4)) hK
/-- PedalLayers$Pad.isDigit -/
def f_53 (a0 : Int) : Int :=
  if wr a0 < 48 then
    0
  else
    if 57 < wr a0 then
      0
    else
      1
theorem t_53 {rom : xRom} {d : Nat} {M : xM} {a0 : Int} {r : Int} {out : Option xV × xH} (e : f_53 a0 = r) (hK : eI M out r) : Rn rom (d + 0) 53 (0, [some (vI a0)], [], (G0, M)) out := by
  have hc : xkall.getD 53 [] = xk_53 := rfl
  unfold f_53 at e
  refine Rn_ms (σ' := (3, [some (vI a0)], [vI 48, vI a0], (G0, M))) hc 2 rfl ?_
  refine R_ite e (fun b1 e => ?_) (fun b1 e => ?_)
  · refine Rn_icT (tgt := 16) hc rfl rfl (by decide) b1 ?_
    refine Rn_ms (σ' := (17, [some (vI a0)], [vI 0], (G0, M))) hc 1 rfl ?_
    cases e
    exact R_end (Rn_iret hc rfl rfl (xretB rfl rfl (by decide))) hK
  · refine Rn_icF hc rfl rfl (by decide) b1 ?_
    refine Rn_ms (σ' := (9, [some (vI a0)], [vI 57, vI a0], (G0, M))) hc 2 rfl ?_
    refine R_ite e (fun b2 e => ?_) (fun b2 e => ?_)
    · refine Rn_icT (tgt := 16) hc rfl rfl (by decide) b2 ?_
      refine Rn_ms (σ' := (17, [some (vI a0)], [vI 0], (G0, M))) hc 1 rfl ?_
      cases e
      exact R_end (Rn_iret hc rfl rfl (xretB rfl rfl (by decide))) hK
    · refine Rn_icF hc rfl rfl (by decide) b2 ?_
      refine Rn_ms (σ' := (17, [some (vI a0)], [vI 1], (G0, M))) hc 2 rfl ?_
      cases e
      exact R_end (Rn_iret hc rfl rfl (xretB rfl rfl (by decide))) hK
def f_49_L2b (M : xM) (v2 : Int) : Option ((Int) ⊕ (Int)) :=
  if wr (M 172 1) ≤ wr v2 then
    some (.inr (v2))
  else
    (f_47 M v2).bind (fun k2 =>
    if wr (f_53 k2) = 0 then
      some (.inr (v2))
    else
      some (.inl (v2 + 1))
    )
theorem t_49_L2b {rom : xRom} {d : Nat} {v2 : Int} {M : xM} {r : (Int) ⊕ (Int)} {out : Option xV × xH} (e : f_49_L2b M v2 = some r) (hK : ((Sum.elim (fun s => Rn rom (d + 1) 49 (2, [some (vR 172), none, some (vI s)], [], (G0, M)) out) (eI M out))) r) : Rn rom (d + 1) 49 (2, [some (vR 172), none, some (vI v2)], [], (G0, M)) out := by
  have hc : xkall.getD 49 [] = xk_49 := rfl
  unfold f_49_L2b at e
  refine Rn_ms (σ' := (4, [some (vR 172), none, some (vI v2)], [vR 172, vI v2], (G0, M))) hc 2 rfl ?_
  refine Rn_getI hc rfl tgc_172 (by decide) (by decide) ?_
  show Rn rom (d + 1) 49 (7, [some (vR 172), none, some (vI v2)], [vI (M 172 1), vI v2], (G0, M)) out
  refine R_ite e (fun b1 e => ?_) (fun b1 e => ?_)
  · refine Rn_icT (tgt := 27) hc rfl rfl (by decide) b1 ?_
    refine Rn_ms (σ' := (28, [some (vR 172), none, some (vI v2)], [vI v2], (G0, M))) hc 1 rfl ?_
    cases e
    exact R_end (Rn_iret hc rfl rfl (xretI rfl rfl)) hK
  · refine Rn_icF hc rfl rfl (by decide) b1 ?_
    refine Rn_ms (σ' := (12, [some (vR 172), none, some (vI v2)], [vI v2, vR 172], (G0, M))) hc 2 rfl ?_
    refine R_bind e (fun k2 hk2 e => ?_)
    refine Rn_cv hc rfl rfl (by decide) (ii := xi_47) rfl rfl rfl (tgc_172 : Tg _ = 6) (by decide) rfl (le := [some (vR 172), some (vI v2)]) rfl (v := some (vI k2)) (M' := M) (t_47  (d := d + 0) hk2 rfl) ?_
    show Rn rom (d + 1) 49 (15, [some (vR 172), none, some (vI v2)], [vI k2], (G0, M)) out
    refine Rn_cs hc rfl rfl (by decide) (ii := xi_53) rfl rfl rfl (le := [some (vI k2)]) rfl (v := some (vI (f_53 k2))) (M' := M) (t_53  (d := d + 0) rfl rfl) ?_
    show Rn rom (d + 1) 49 (18, [some (vR 172), none, some (vI v2)], [vI (f_53 k2)], (G0, M)) out
    refine R_ite e (fun b3 e => ?_) (fun b3 e => ?_)
    · refine Rn_ifT (tgt := 27) hc rfl rfl (by decide) b3 ?_
      refine Rn_ms (σ' := (28, [some (vR 172), none, some (vI v2)], [vI v2], (G0, M))) hc 1 rfl ?_
      cases e
      exact R_end (Rn_iret hc rfl rfl (xretI rfl rfl)) hK
    · refine Rn_ifF hc rfl rfl (by decide) b3 ?_
      refine Rn_ms (σ' := (2, [some (vR 172), none, some (vI (v2 + 1))], [], (G0, M))) hc 2 rfl ?_
      cases e
      exact Rn_weak (xle_s (xle_s (xle_s xle_0))) hK
def f_49_L2 (M : xM) (s : Int) : Option (Int) := loop NF (fun s => f_49_L2b M s) s
theorem t_49_L2 {rom : xRom} {d : Nat}  {M : xM} {s : Int} {r : Int} {out : Option xV × xH} (e : f_49_L2 M s = some r) (hK : (eI M out) r) : Rn rom (d + 1) 49 (2, [some (vR 172), none, some (vI s)], [], (G0, M)) out := by
  unfold f_49_L2 at e
  revert e hK
  exact R_loop (b := fun s => f_49_L2b M s) (G := fun s => Rn rom (d + 1) 49 (2, [some (vR 172), none, some (vI s)], [], (G0, M)) out) (K := eI M out) (fun s r e hK => t_49_L2b  e hK) NF s r
/-- PedalLayers$Pad.behindNumber -/
def f_49 (M : xM) (a1 : Int) : Option (Int) :=
  f_49_L2 M (a1)
theorem t_49 {rom : xRom} {d : Nat} {M : xM} {a1 : Int} {r : Int} {out : Option xV × xH} (e : f_49 M a1 = some r) (hK : eI M out r) : Rn rom (d + 1) 49 (0, [some (vR 172), some (vI a1), none], [], (G0, M)) out := by
  have hc : xkall.getD 49 [] = xk_49 := rfl
  unfold f_49 at e
  refine Rn_ms (σ' := (2, [some (vR 172), some (vI a1), some (vI a1)], [], (G0, M))) hc 2 rfl ?_
  exact Rn_weak (xle_s (xle_n (xle_s xle_0))) (t_49_L2  e hK)
def f_50_L11b (M : xM) (c3 : Int) (v2 : Int) (v4 : Int) : Option ((Int × Int) ⊕ (Int)) :=
  if wr c3 ≤ wr v4 then
    some (.inr (v2))
  else
    (f_47 M v4).bind (fun k3 =>
    some (.inl ((((10 * v2) + k3) - 48), (v4 + 1)))
    )
theorem t_50_L11b {rom : xRom} {d : Nat} {c3 : Int} {v2 : Int} {v4 : Int} {M : xM} {r : (Int × Int) ⊕ (Int)} {out : Option xV × xH} (e : f_50_L11b M c3 v2 v4 = some r) (hK : ((Sum.elim (fun s => Rn rom (d + 2) 50 (11, [some (vR 172), none, some (vI s.1), some (vI c3), some (vI s.2)], [], (G0, M)) out) (eI M out))) r) : Rn rom (d + 2) 50 (11, [some (vR 172), none, some (vI v2), some (vI c3), some (vI v4)], [], (G0, M)) out := by
  have hc : xkall.getD 50 [] = xk_50 := rfl
  unfold f_50_L11b at e
  refine Rn_ms (σ' := (14, [some (vR 172), none, some (vI v2), some (vI c3), some (vI v4)], [vI c3, vI v4], (G0, M))) hc 2 rfl ?_
  refine R_ite e (fun b2 e => ?_) (fun b2 e => ?_)
  · refine Rn_icT (tgt := 38) hc rfl rfl (by decide) b2 ?_
    refine Rn_ms (σ' := (39, [some (vR 172), none, some (vI v2), some (vI c3), some (vI v4)], [vI v2], (G0, M))) hc 1 rfl ?_
    cases e
    exact R_end (Rn_iret hc rfl rfl (xretI rfl rfl)) hK
  · refine Rn_icF hc rfl rfl (by decide) b2 ?_
    refine Rn_ms (σ' := (24, [some (vR 172), none, some (vI v2), some (vI c3), some (vI v4)], [vI v4, vR 172, vI (10 * v2)], (G0, M))) hc 5 rfl ?_
    refine R_bind e (fun k3 hk3 e => ?_)
    refine Rn_cv hc rfl rfl (by decide) (ii := xi_47) rfl rfl rfl (tgc_172 : Tg _ = 6) (by decide) rfl (le := [some (vR 172), some (vI v4)]) rfl (v := some (vI k3)) (M' := M) (t_47  (d := d + 1) hk3 rfl) ?_
    refine Rn_ms (σ' := (11, [some (vR 172), none, some (vI (((10 * v2) + k3) - 48)), some (vI c3), some (vI (v4 + 1))], [], (G0, M))) hc 6 rfl ?_
    cases e
    exact Rn_weak (xle_s (xle_s (xle_s (xle_s (xle_s xle_0))))) hK
def f_50_L11 (M : xM) (c3 : Int) (s : Int × Int) : Option (Int) := loop NF (fun s => f_50_L11b M c3 s.1 s.2) s
theorem t_50_L11 {rom : xRom} {d : Nat} {c3 : Int} {M : xM} {s : Int × Int} {r : Int} {out : Option xV × xH} (e : f_50_L11 M c3 s = some r) (hK : (eI M out) r) : Rn rom (d + 2) 50 (11, [some (vR 172), none, some (vI s.1), some (vI c3), some (vI s.2)], [], (G0, M)) out := by
  unfold f_50_L11 at e
  revert e hK
  exact R_loop (b := fun s => f_50_L11b M c3 s.1 s.2) (G := fun s => Rn rom (d + 2) 50 (11, [some (vR 172), none, some (vI s.1), some (vI c3), some (vI s.2)], [], (G0, M)) out) (K := eI M out) (fun s r e hK => t_50_L11b  e hK) NF s r
/-- PedalLayers$Pad.numberAt -/
def f_50 (M : xM) (a1 : Int) : Option (Int) :=
  (f_49 M a1).bind (fun k1 =>
  f_50_L11 M k1 (0, a1)
  )
theorem t_50 {rom : xRom} {d : Nat} {M : xM} {a1 : Int} {r : Int} {out : Option xV × xH} (e : f_50 M a1 = some r) (hK : eI M out r) : Rn rom (d + 2) 50 (0, [some (vR 172), some (vI a1), none, none, none], [], (G0, M)) out := by
  have hc : xkall.getD 50 [] = xk_50 := rfl
  unfold f_50 at e
  refine Rn_ms (σ' := (4, [some (vR 172), some (vI a1), some (vI 0), none, none], [vI a1, vR 172], (G0, M))) hc 4 rfl ?_
  refine R_bind e (fun k1 hk1 e => ?_)
  refine Rn_cv hc rfl rfl (by decide) (ii := xi_49) rfl rfl rfl (tgc_172 : Tg _ = 6) (by decide) rfl (le := [some (vR 172), some (vI a1), none]) rfl (v := some (vI k1)) (M' := M) (t_49  (d := d + 0) hk1 rfl) ?_
  refine Rn_ms (σ' := (11, [some (vR 172), some (vI a1), some (vI 0), some (vI k1), some (vI a1)], [], (G0, M))) hc 3 rfl ?_
  exact Rn_weak (xle_s (xle_n (xle_s (xle_s (xle_s xle_0))))) (t_50_L11  e hK)
end
