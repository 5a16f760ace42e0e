/-- a private method of a class that the tables say can be made, by its rows of tables_1 -/
def lw_okq (q : MethodName × Nat) : Prop := (q.1.cls ≠ "java/lang/invoke/MethodHandle" ∧ q.1.cls ≠ "java/lang/invoke/VarHandle") ∧ Cond.instantiable q.1.cls q.2 ∈ tables_1 ∧ Cond.privateMethod q.1 ∈ tables_1 ∧ Cond.instanceMethod q.1 ∈ tables_1
theorem lw_p0 : lw_okq (⟨"PedalLayers$History", "stateAt", "(I)LPedalLayers$Pedal;"⟩, 3) := ⟨⟨by decide +kernel, by decide +kernel⟩, List.mem_of_getElem? (i := 136) (by decide +kernel), List.mem_of_getElem? (i := 260) (by decide +kernel), List.mem_of_getElem? (i := 261) (by decide +kernel)⟩
theorem lw_p1 : lw_okq (⟨"PedalLayers$Pedal", "layerAt", "(I)LPedalLayers$Layer;"⟩, 11) := ⟨⟨by decide +kernel, by decide +kernel⟩, List.mem_of_getElem? (i := 25) (by decide +kernel), List.mem_of_getElem? (i := 294) (by decide +kernel), List.mem_of_getElem? (i := 295) (by decide +kernel)⟩
theorem lw_p2 : lw_okq (⟨"PedalLayers$Pedal", "beginFirstTake", "()I"⟩, 11) := ⟨⟨by decide +kernel, by decide +kernel⟩, List.mem_of_getElem? (i := 25) (by decide +kernel), List.mem_of_getElem? (i := 311) (by decide +kernel), List.mem_of_getElem? (i := 312) (by decide +kernel)⟩
theorem lw_p3 : lw_okq (⟨"PedalLayers$Pedal", "beginTakeOver", "()I"⟩, 11) := ⟨⟨by decide +kernel, by decide +kernel⟩, List.mem_of_getElem? (i := 25) (by decide +kernel), List.mem_of_getElem? (i := 323) (by decide +kernel), List.mem_of_getElem? (i := 324) (by decide +kernel)⟩
theorem lw_p4 : lw_okq (⟨"PedalLayers$Pedal", "startLoop", "()I"⟩, 11) := ⟨⟨by decide +kernel, by decide +kernel⟩, List.mem_of_getElem? (i := 25) (by decide +kernel), List.mem_of_getElem? (i := 336) (by decide +kernel), List.mem_of_getElem? (i := 337) (by decide +kernel)⟩
theorem lw_p5 : lw_okq (⟨"PedalLayers$Pedal", "endTake", "()I"⟩, 11) := ⟨⟨by decide +kernel, by decide +kernel⟩, List.mem_of_getElem? (i := 25) (by decide +kernel), List.mem_of_getElem? (i := 340) (by decide +kernel), List.mem_of_getElem? (i := 341) (by decide +kernel)⟩
theorem lw_p6 : lw_okq (⟨"PedalLayers$Pedal", "lay", "(I)V"⟩, 11) := ⟨⟨by decide +kernel, by decide +kernel⟩, List.mem_of_getElem? (i := 25) (by decide +kernel), List.mem_of_getElem? (i := 354) (by decide +kernel), List.mem_of_getElem? (i := 355) (by decide +kernel)⟩
theorem lw_p7 : lw_okq (⟨"PedalLayers", "settle", "(I)I"⟩, 9) := ⟨⟨by decide +kernel, by decide +kernel⟩, List.mem_of_getElem? (i := 17) (by decide +kernel), List.mem_of_getElem? (i := 383) (by decide +kernel), List.mem_of_getElem? (i := 384) (by decide +kernel)⟩
theorem lw_p8 : lw_okq (⟨"PedalLayers$Pedal", "cellOfTake", "()I"⟩, 11) := ⟨⟨by decide +kernel, by decide +kernel⟩, List.mem_of_getElem? (i := 25) (by decide +kernel), List.mem_of_getElem? (i := 415) (by decide +kernel), List.mem_of_getElem? (i := 416) (by decide +kernel)⟩
theorem lw_p9 : lw_okq (⟨"PedalLayers$Pedal", "moveLoop", "(I)I"⟩, 11) := ⟨⟨by decide +kernel, by decide +kernel⟩, List.mem_of_getElem? (i := 25) (by decide +kernel), List.mem_of_getElem? (i := 436) (by decide +kernel), List.mem_of_getElem? (i := 437) (by decide +kernel)⟩
theorem lw_p10 : lw_okq (⟨"PedalLayers$Pedal", "fadeLayers", "()V"⟩, 11) := ⟨⟨by decide +kernel, by decide +kernel⟩, List.mem_of_getElem? (i := 25) (by decide +kernel), List.mem_of_getElem? (i := 440) (by decide +kernel), List.mem_of_getElem? (i := 441) (by decide +kernel)⟩
theorem lw_p11 : lw_okq (⟨"PedalLayers$Pedal", "longestTake", "()I"⟩, 11) := ⟨⟨by decide +kernel, by decide +kernel⟩, List.mem_of_getElem? (i := 25) (by decide +kernel), List.mem_of_getElem? (i := 451) (by decide +kernel), List.mem_of_getElem? (i := 452) (by decide +kernel)⟩
theorem lw_p12 : lw_okq (⟨"PedalLayers", "carryOut", "(I)I"⟩, 9) := ⟨⟨by decide +kernel, by decide +kernel⟩, List.mem_of_getElem? (i := 17) (by decide +kernel), List.mem_of_getElem? (i := 578) (by decide +kernel), List.mem_of_getElem? (i := 579) (by decide +kernel)⟩
theorem lw_p13 : lw_okq (⟨"PedalLayers$Ear", "buriedOf", "(LPedalLayers$Pedal;II)I"⟩, 4) := ⟨⟨by decide +kernel, by decide +kernel⟩, List.mem_of_getElem? (i := 205) (by decide +kernel), List.mem_of_getElem? (i := 698) (by decide +kernel), List.mem_of_getElem? (i := 699) (by decide +kernel)⟩
theorem lw_p14 : lw_okq (⟨"PedalLayers$Ear", "beginsAt", "(III)Z"⟩, 4) := ⟨⟨by decide +kernel, by decide +kernel⟩, List.mem_of_getElem? (i := 205) (by decide +kernel), List.mem_of_getElem? (i := 717) (by decide +kernel), List.mem_of_getElem? (i := 718) (by decide +kernel)⟩
theorem lw_p15 : lw_okq (⟨"PedalLayersModel", "whyNotPress", "()I"⟩, 9) := ⟨⟨by decide +kernel, by decide +kernel⟩, List.mem_of_getElem? (i := 799) (by decide +kernel), List.mem_of_getElem? (i := 839) (by decide +kernel), List.mem_of_getElem? (i := 840) (by decide +kernel)⟩
def lw_privs_1 : List (MethodName × Nat) := [(⟨"PedalLayers$History", "stateAt", "(I)LPedalLayers$Pedal;"⟩, 3), (⟨"PedalLayers$Pedal", "layerAt", "(I)LPedalLayers$Layer;"⟩, 11), (⟨"PedalLayers$Pedal", "beginFirstTake", "()I"⟩, 11), (⟨"PedalLayers$Pedal", "beginTakeOver", "()I"⟩, 11), (⟨"PedalLayers$Pedal", "startLoop", "()I"⟩, 11), (⟨"PedalLayers$Pedal", "endTake", "()I"⟩, 11), (⟨"PedalLayers$Pedal", "lay", "(I)V"⟩, 11), (⟨"PedalLayers", "settle", "(I)I"⟩, 9), (⟨"PedalLayers$Pedal", "cellOfTake", "()I"⟩, 11), (⟨"PedalLayers$Pedal", "moveLoop", "(I)I"⟩, 11), (⟨"PedalLayers$Pedal", "fadeLayers", "()V"⟩, 11), (⟨"PedalLayers$Pedal", "longestTake", "()I"⟩, 11), (⟨"PedalLayers", "carryOut", "(I)I"⟩, 9), (⟨"PedalLayers$Ear", "buriedOf", "(LPedalLayers$Pedal;II)I"⟩, 4), (⟨"PedalLayers$Ear", "beginsAt", "(III)Z"⟩, 4), (⟨"PedalLayersModel", "whyNotPress", "()I"⟩, 9)]
theorem lw_r1 : ∀ q ∈ lw_privs_1, lw_okq q := List.forall_mem_cons.mpr ⟨lw_p0, List.forall_mem_cons.mpr ⟨lw_p1, List.forall_mem_cons.mpr ⟨lw_p2, List.forall_mem_cons.mpr ⟨lw_p3, List.forall_mem_cons.mpr ⟨lw_p4, List.forall_mem_cons.mpr ⟨lw_p5, List.forall_mem_cons.mpr ⟨lw_p6, List.forall_mem_cons.mpr ⟨lw_p7, List.forall_mem_cons.mpr ⟨lw_p8, List.forall_mem_cons.mpr ⟨lw_p9, List.forall_mem_cons.mpr ⟨lw_p10, List.forall_mem_cons.mpr ⟨lw_p11, List.forall_mem_cons.mpr ⟨lw_p12, List.forall_mem_cons.mpr ⟨lw_p13, List.forall_mem_cons.mpr ⟨lw_p14, List.forall_mem_cons.mpr ⟨lw_p15, fun _ h => absurd h List.not_mem_nil⟩⟩⟩⟩⟩⟩⟩⟩⟩⟩⟩⟩⟩⟩⟩⟩
theorem lw_p16 : lw_okq (⟨"PedalLayersModel", "runsTake", "()Z"⟩, 9) := ⟨⟨by decide +kernel, by decide +kernel⟩, List.mem_of_getElem? (i := 799) (by decide +kernel), List.mem_of_getElem? (i := 843) (by decide +kernel), List.mem_of_getElem? (i := 844) (by decide +kernel)⟩
theorem lw_p17 : lw_okq (⟨"PedalLayersModel", "of", "(I)I"⟩, 9) := ⟨⟨by decide +kernel, by decide +kernel⟩, List.mem_of_getElem? (i := 799) (by decide +kernel), List.mem_of_getElem? (i := 847) (by decide +kernel), List.mem_of_getElem? (i := 848) (by decide +kernel)⟩
theorem lw_p18 : lw_okq (⟨"PedalLayersModel", "remembers", "()V"⟩, 9) := ⟨⟨by decide +kernel, by decide +kernel⟩, List.mem_of_getElem? (i := 799) (by decide +kernel), List.mem_of_getElem? (i := 851) (by decide +kernel), List.mem_of_getElem? (i := 852) (by decide +kernel)⟩
theorem lw_p19 : lw_okq (⟨"PedalLayersModel", "presses", "()V"⟩, 9) := ⟨⟨by decide +kernel, by decide +kernel⟩, List.mem_of_getElem? (i := 799) (by decide +kernel), List.mem_of_getElem? (i := 855) (by decide +kernel), List.mem_of_getElem? (i := 856) (by decide +kernel)⟩
theorem lw_p20 : lw_okq (⟨"PedalLayersModel", "endsFirst", "()V"⟩, 9) := ⟨⟨by decide +kernel, by decide +kernel⟩, List.mem_of_getElem? (i := 799) (by decide +kernel), List.mem_of_getElem? (i := 859) (by decide +kernel), List.mem_of_getElem? (i := 860) (by decide +kernel)⟩
theorem lw_p21 : lw_okq (⟨"PedalLayersModel", "roundedOf", "(I)I"⟩, 9) := ⟨⟨by decide +kernel, by decide +kernel⟩, List.mem_of_getElem? (i := 799) (by decide +kernel), List.mem_of_getElem? (i := 863) (by decide +kernel), List.mem_of_getElem? (i := 864) (by decide +kernel)⟩
theorem lw_p22 : lw_okq (⟨"PedalLayersModel", "lays", "(II)V"⟩, 9) := ⟨⟨by decide +kernel, by decide +kernel⟩, List.mem_of_getElem? (i := 799) (by decide +kernel), List.mem_of_getElem? (i := 867) (by decide +kernel), List.mem_of_getElem? (i := 868) (by decide +kernel)⟩
theorem lw_p23 : lw_okq (⟨"PedalLayersModel", "clears", "(I)V"⟩, 9) := ⟨⟨by decide +kernel, by decide +kernel⟩, List.mem_of_getElem? (i := 799) (by decide +kernel), List.mem_of_getElem? (i := 871) (by decide +kernel), List.mem_of_getElem? (i := 872) (by decide +kernel)⟩
theorem lw_p24 : lw_okq (⟨"PedalLayersModel", "force", "(III)I"⟩, 9) := ⟨⟨by decide +kernel, by decide +kernel⟩, List.mem_of_getElem? (i := 799) (by decide +kernel), List.mem_of_getElem? (i := 875) (by decide +kernel), List.mem_of_getElem? (i := 876) (by decide +kernel)⟩
theorem lw_p25 : lw_okq (⟨"PedalLayersModel", "sets", "(IIII)V"⟩, 9) := ⟨⟨by decide +kernel, by decide +kernel⟩, List.mem_of_getElem? (i := 799) (by decide +kernel), List.mem_of_getElem? (i := 883) (by decide +kernel), List.mem_of_getElem? (i := 884) (by decide +kernel)⟩
theorem lw_p26 : lw_okq (⟨"PedalLayersModel", "endsTake", "()V"⟩, 9) := ⟨⟨by decide +kernel, by decide +kernel⟩, List.mem_of_getElem? (i := 799) (by decide +kernel), List.mem_of_getElem? (i := 888) (by decide +kernel), List.mem_of_getElem? (i := 889) (by decide +kernel)⟩
theorem lw_p27 : lw_okq (⟨"PedalLayersModel", "starts", "()V"⟩, 9) := ⟨⟨by decide +kernel, by decide +kernel⟩, List.mem_of_getElem? (i := 799) (by decide +kernel), List.mem_of_getElem? (i := 892) (by decide +kernel), List.mem_of_getElem? (i := 893) (by decide +kernel)⟩
theorem lw_p28 : lw_okq (⟨"PedalLayersModel", "endsOver", "()V"⟩, 9) := ⟨⟨by decide +kernel, by decide +kernel⟩, List.mem_of_getElem? (i := 799) (by decide +kernel), List.mem_of_getElem? (i := 897) (by decide +kernel), List.mem_of_getElem? (i := 898) (by decide +kernel)⟩
theorem lw_p29 : lw_okq (⟨"PedalLayersModel", "loop", "()I"⟩, 9) := ⟨⟨by decide +kernel, by decide +kernel⟩, List.mem_of_getElem? (i := 799) (by decide +kernel), List.mem_of_getElem? (i := 901) (by decide +kernel), List.mem_of_getElem? (i := 902) (by decide +kernel)⟩
theorem lw_p30 : lw_okq (⟨"PedalLayersModel", "lengthOf", "(I)I"⟩, 9) := ⟨⟨by decide +kernel, by decide +kernel⟩, List.mem_of_getElem? (i := 799) (by decide +kernel), List.mem_of_getElem? (i := 905) (by decide +kernel), List.mem_of_getElem? (i := 906) (by decide +kernel)⟩
theorem lw_p31 : lw_okq (⟨"PedalLayersModel", "beginsTake", "()V"⟩, 9) := ⟨⟨by decide +kernel, by decide +kernel⟩, List.mem_of_getElem? (i := 799) (by decide +kernel), List.mem_of_getElem? (i := 909) (by decide +kernel), List.mem_of_getElem? (i := 910) (by decide +kernel)⟩
def lw_privs_2 : List (MethodName × Nat) := [(⟨"PedalLayersModel", "runsTake", "()Z"⟩, 9), (⟨"PedalLayersModel", "of", "(I)I"⟩, 9), (⟨"PedalLayersModel", "remembers", "()V"⟩, 9), (⟨"PedalLayersModel", "presses", "()V"⟩, 9), (⟨"PedalLayersModel", "endsFirst", "()V"⟩, 9), (⟨"PedalLayersModel", "roundedOf", "(I)I"⟩, 9), (⟨"PedalLayersModel", "lays", "(II)V"⟩, 9), (⟨"PedalLayersModel", "clears", "(I)V"⟩, 9), (⟨"PedalLayersModel", "force", "(III)I"⟩, 9), (⟨"PedalLayersModel", "sets", "(IIII)V"⟩, 9), (⟨"PedalLayersModel", "endsTake", "()V"⟩, 9), (⟨"PedalLayersModel", "starts", "()V"⟩, 9), (⟨"PedalLayersModel", "endsOver", "()V"⟩, 9), (⟨"PedalLayersModel", "loop", "()I"⟩, 9), (⟨"PedalLayersModel", "lengthOf", "(I)I"⟩, 9), (⟨"PedalLayersModel", "beginsTake", "()V"⟩, 9)]
theorem lw_r2 : ∀ q ∈ lw_privs_2, lw_okq q := List.forall_mem_cons.mpr ⟨lw_p16, List.forall_mem_cons.mpr ⟨lw_p17, List.forall_mem_cons.mpr ⟨lw_p18, List.forall_mem_cons.mpr ⟨lw_p19, List.forall_mem_cons.mpr ⟨lw_p20, List.forall_mem_cons.mpr ⟨lw_p21, List.forall_mem_cons.mpr ⟨lw_p22, List.forall_mem_cons.mpr ⟨lw_p23, List.forall_mem_cons.mpr ⟨lw_p24, List.forall_mem_cons.mpr ⟨lw_p25, List.forall_mem_cons.mpr ⟨lw_p26, List.forall_mem_cons.mpr ⟨lw_p27, List.forall_mem_cons.mpr ⟨lw_p28, List.forall_mem_cons.mpr ⟨lw_p29, List.forall_mem_cons.mpr ⟨lw_p30, List.forall_mem_cons.mpr ⟨lw_p31, fun _ h => absurd h List.not_mem_nil⟩⟩⟩⟩⟩⟩⟩⟩⟩⟩⟩⟩⟩⟩⟩⟩
theorem lw_p32 : lw_okq (⟨"PedalLayersModel", "whyNotStop", "()I"⟩, 9) := ⟨⟨by decide +kernel, by decide +kernel⟩, List.mem_of_getElem? (i := 799) (by decide +kernel), List.mem_of_getElem? (i := 918) (by decide +kernel), List.mem_of_getElem? (i := 919) (by decide +kernel)⟩
theorem lw_p33 : lw_okq (⟨"PedalLayersModel", "stops", "()V"⟩, 9) := ⟨⟨by decide +kernel, by decide +kernel⟩, List.mem_of_getElem? (i := 799) (by decide +kernel), List.mem_of_getElem? (i := 922) (by decide +kernel), List.mem_of_getElem? (i := 923) (by decide +kernel)⟩
theorem lw_p34 : lw_okq (⟨"PedalLayersModel", "whyNotHit", "(II)I"⟩, 9) := ⟨⟨by decide +kernel, by decide +kernel⟩, List.mem_of_getElem? (i := 799) (by decide +kernel), List.mem_of_getElem? (i := 935) (by decide +kernel), List.mem_of_getElem? (i := 936) (by decide +kernel)⟩
theorem lw_p35 : lw_okq (⟨"PedalLayersModel", "hits", "(II)I"⟩, 9) := ⟨⟨by decide +kernel, by decide +kernel⟩, List.mem_of_getElem? (i := 799) (by decide +kernel), List.mem_of_getElem? (i := 942) (by decide +kernel), List.mem_of_getElem? (i := 943) (by decide +kernel)⟩
theorem lw_p36 : lw_okq (⟨"PedalLayersModel", "passes", "(I)I"⟩, 9) := ⟨⟨by decide +kernel, by decide +kernel⟩, List.mem_of_getElem? (i := 799) (by decide +kernel), List.mem_of_getElem? (i := 950) (by decide +kernel), List.mem_of_getElem? (i := 951) (by decide +kernel)⟩
theorem lw_p37 : lw_okq (⟨"PedalLayersModel", "ticks", "()I"⟩, 9) := ⟨⟨by decide +kernel, by decide +kernel⟩, List.mem_of_getElem? (i := 799) (by decide +kernel), List.mem_of_getElem? (i := 954) (by decide +kernel), List.mem_of_getElem? (i := 955) (by decide +kernel)⟩
theorem lw_p38 : lw_okq (⟨"PedalLayersModel", "fades", "()V"⟩, 9) := ⟨⟨by decide +kernel, by decide +kernel⟩, List.mem_of_getElem? (i := 799) (by decide +kernel), List.mem_of_getElem? (i := 958) (by decide +kernel), List.mem_of_getElem? (i := 959) (by decide +kernel)⟩
theorem lw_p39 : lw_okq (⟨"PedalLayersModel", "whyNotPeel", "()I"⟩, 9) := ⟨⟨by decide +kernel, by decide +kernel⟩, List.mem_of_getElem? (i := 799) (by decide +kernel), List.mem_of_getElem? (i := 967) (by decide +kernel), List.mem_of_getElem? (i := 968) (by decide +kernel)⟩
theorem lw_p40 : lw_okq (⟨"PedalLayersModel", "peels", "()V"⟩, 9) := ⟨⟨by decide +kernel, by decide +kernel⟩, List.mem_of_getElem? (i := 799) (by decide +kernel), List.mem_of_getElem? (i := 971) (by decide +kernel), List.mem_of_getElem? (i := 972) (by decide +kernel)⟩
theorem lw_p41 : lw_okq (⟨"PedalLayersModel", "whyNotBack", "()I"⟩, 9) := ⟨⟨by decide +kernel, by decide +kernel⟩, List.mem_of_getElem? (i := 799) (by decide +kernel), List.mem_of_getElem? (i := 979) (by decide +kernel), List.mem_of_getElem? (i := 980) (by decide +kernel)⟩
theorem lw_p42 : lw_okq (⟨"PedalLayersModel", "backs", "()V"⟩, 9) := ⟨⟨by decide +kernel, by decide +kernel⟩, List.mem_of_getElem? (i := 799) (by decide +kernel), List.mem_of_getElem? (i := 983) (by decide +kernel), List.mem_of_getElem? (i := 984) (by decide +kernel)⟩
theorem lw_p43 : lw_okq (⟨"PedalLayersModel", "isLayer", "(I)Z"⟩, 9) := ⟨⟨by decide +kernel, by decide +kernel⟩, List.mem_of_getElem? (i := 799) (by decide +kernel), List.mem_of_getElem? (i := 991) (by decide +kernel), List.mem_of_getElem? (i := 992) (by decide +kernel)⟩
theorem lw_p44 : lw_okq (⟨"PedalLayersModel", "faultOf", "(I)I"⟩, 9) := ⟨⟨by decide +kernel, by decide +kernel⟩, List.mem_of_getElem? (i := 799) (by decide +kernel), List.mem_of_getElem? (i := 1015) (by decide +kernel), List.mem_of_getElem? (i := 1016) (by decide +kernel)⟩
theorem lw_p45 : lw_okq (⟨"PedalLayersModel", "orderEnd", "(I)I"⟩, 9) := ⟨⟨by decide +kernel, by decide +kernel⟩, List.mem_of_getElem? (i := 799) (by decide +kernel), List.mem_of_getElem? (i := 1019) (by decide +kernel), List.mem_of_getElem? (i := 1020) (by decide +kernel)⟩
theorem lw_p46 : lw_okq (⟨"PedalLayersModel", "sign", "(I)I"⟩, 9) := ⟨⟨by decide +kernel, by decide +kernel⟩, List.mem_of_getElem? (i := 799) (by decide +kernel), List.mem_of_getElem? (i := 1023) (by decide +kernel), List.mem_of_getElem? (i := 1024) (by decide +kernel)⟩
theorem lw_p47 : lw_okq (⟨"PedalLayersModel", "numberEnd", "(III)I"⟩, 9) := ⟨⟨by decide +kernel, by decide +kernel⟩, List.mem_of_getElem? (i := 799) (by decide +kernel), List.mem_of_getElem? (i := 1027) (by decide +kernel), List.mem_of_getElem? (i := 1028) (by decide +kernel)⟩
def lw_privs_3 : List (MethodName × Nat) := [(⟨"PedalLayersModel", "whyNotStop", "()I"⟩, 9), (⟨"PedalLayersModel", "stops", "()V"⟩, 9), (⟨"PedalLayersModel", "whyNotHit", "(II)I"⟩, 9), (⟨"PedalLayersModel", "hits", "(II)I"⟩, 9), (⟨"PedalLayersModel", "passes", "(I)I"⟩, 9), (⟨"PedalLayersModel", "ticks", "()I"⟩, 9), (⟨"PedalLayersModel", "fades", "()V"⟩, 9), (⟨"PedalLayersModel", "whyNotPeel", "()I"⟩, 9), (⟨"PedalLayersModel", "peels", "()V"⟩, 9), (⟨"PedalLayersModel", "whyNotBack", "()I"⟩, 9), (⟨"PedalLayersModel", "backs", "()V"⟩, 9), (⟨"PedalLayersModel", "isLayer", "(I)Z"⟩, 9), (⟨"PedalLayersModel", "faultOf", "(I)I"⟩, 9), (⟨"PedalLayersModel", "orderEnd", "(I)I"⟩, 9), (⟨"PedalLayersModel", "sign", "(I)I"⟩, 9), (⟨"PedalLayersModel", "numberEnd", "(III)I"⟩, 9)]
theorem lw_r3 : ∀ q ∈ lw_privs_3, lw_okq q := List.forall_mem_cons.mpr ⟨lw_p32, List.forall_mem_cons.mpr ⟨lw_p33, List.forall_mem_cons.mpr ⟨lw_p34, List.forall_mem_cons.mpr ⟨lw_p35, List.forall_mem_cons.mpr ⟨lw_p36, List.forall_mem_cons.mpr ⟨lw_p37, List.forall_mem_cons.mpr ⟨lw_p38, List.forall_mem_cons.mpr ⟨lw_p39, List.forall_mem_cons.mpr ⟨lw_p40, List.forall_mem_cons.mpr ⟨lw_p41, List.forall_mem_cons.mpr ⟨lw_p42, List.forall_mem_cons.mpr ⟨lw_p43, List.forall_mem_cons.mpr ⟨lw_p44, List.forall_mem_cons.mpr ⟨lw_p45, List.forall_mem_cons.mpr ⟨lw_p46, List.forall_mem_cons.mpr ⟨lw_p47, fun _ h => absurd h List.not_mem_nil⟩⟩⟩⟩⟩⟩⟩⟩⟩⟩⟩⟩⟩⟩⟩⟩
theorem lw_p48 : lw_okq (⟨"PedalLayersModel", "digit", "(I)I"⟩, 9) := ⟨⟨by decide +kernel, by decide +kernel⟩, List.mem_of_getElem? (i := 799) (by decide +kernel), List.mem_of_getElem? (i := 1031) (by decide +kernel), List.mem_of_getElem? (i := 1032) (by decide +kernel)⟩
theorem lw_p49 : lw_okq (⟨"PedalLayersModel", "behind", "(II)I"⟩, 9) := ⟨⟨by decide +kernel, by decide +kernel⟩, List.mem_of_getElem? (i := 799) (by decide +kernel), List.mem_of_getElem? (i := 1035) (by decide +kernel), List.mem_of_getElem? (i := 1036) (by decide +kernel)⟩
theorem lw_p50 : lw_okq (⟨"PedalLayersModel", "carries", "(I)I"⟩, 9) := ⟨⟨by decide +kernel, by decide +kernel⟩, List.mem_of_getElem? (i := 799) (by decide +kernel), List.mem_of_getElem? (i := 1043) (by decide +kernel), List.mem_of_getElem? (i := 1044) (by decide +kernel)⟩
theorem lw_p51 : lw_okq (⟨"PedalLayersModel", "numberAt", "(I)I"⟩, 9) := ⟨⟨by decide +kernel, by decide +kernel⟩, List.mem_of_getElem? (i := 799) (by decide +kernel), List.mem_of_getElem? (i := 1047) (by decide +kernel), List.mem_of_getElem? (i := 1048) (by decide +kernel)⟩
theorem lw_p52 : lw_okq (⟨"PedalLayersModel", "goes", "(II)I"⟩, 9) := ⟨⟨by decide +kernel, by decide +kernel⟩, List.mem_of_getElem? (i := 799) (by decide +kernel), List.mem_of_getElem? (i := 1051) (by decide +kernel), List.mem_of_getElem? (i := 1052) (by decide +kernel)⟩
theorem lw_p53 : lw_okq (⟨"PedalLayersModel", "forces", "(III)I"⟩, 9) := ⟨⟨by decide +kernel, by decide +kernel⟩, List.mem_of_getElem? (i := 799) (by decide +kernel), List.mem_of_getElem? (i := 1063) (by decide +kernel), List.mem_of_getElem? (i := 1064) (by decide +kernel)⟩
theorem lw_p54 : lw_okq (⟨"PedalLayersModel", "isCell", "(I)Z"⟩, 9) := ⟨⟨by decide +kernel, by decide +kernel⟩, List.mem_of_getElem? (i := 799) (by decide +kernel), List.mem_of_getElem? (i := 1075) (by decide +kernel), List.mem_of_getElem? (i := 1076) (by decide +kernel)⟩
theorem lw_p55 : lw_okq (⟨"PedalLayersModel", "ringOf", "(III)I"⟩, 9) := ⟨⟨by decide +kernel, by decide +kernel⟩, List.mem_of_getElem? (i := 799) (by decide +kernel), List.mem_of_getElem? (i := 1079) (by decide +kernel), List.mem_of_getElem? (i := 1080) (by decide +kernel)⟩
theorem lw_p56 : lw_okq (⟨"PedalLayersModel", "adds", "(III)I"⟩, 9) := ⟨⟨by decide +kernel, by decide +kernel⟩, List.mem_of_getElem? (i := 799) (by decide +kernel), List.mem_of_getElem? (i := 1083) (by decide +kernel), List.mem_of_getElem? (i := 1084) (by decide +kernel)⟩
theorem lw_p57 : lw_okq (⟨"PedalLayersModel", "sumIn", "(II)I"⟩, 9) := ⟨⟨by decide +kernel, by decide +kernel⟩, List.mem_of_getElem? (i := 799) (by decide +kernel), List.mem_of_getElem? (i := 1091) (by decide +kernel), List.mem_of_getElem? (i := 1092) (by decide +kernel)⟩
theorem lw_p58 : lw_okq (⟨"PedalLayersModel", "keys", "(II)I"⟩, 9) := ⟨⟨by decide +kernel, by decide +kernel⟩, List.mem_of_getElem? (i := 799) (by decide +kernel), List.mem_of_getElem? (i := 1095) (by decide +kernel), List.mem_of_getElem? (i := 1096) (by decide +kernel)⟩
theorem lw_p59 : lw_okq (⟨"PedalLayersModel", "buriedOf", "(I)I"⟩, 9) := ⟨⟨by decide +kernel, by decide +kernel⟩, List.mem_of_getElem? (i := 799) (by decide +kernel), List.mem_of_getElem? (i := 1107) (by decide +kernel), List.mem_of_getElem? (i := 1108) (by decide +kernel)⟩
theorem lw_p60 : lw_okq (⟨"PedalLayersModel", "comesAt", "(I)Z"⟩, 9) := ⟨⟨by decide +kernel, by decide +kernel⟩, List.mem_of_getElem? (i := 799) (by decide +kernel), List.mem_of_getElem? (i := 1115) (by decide +kernel), List.mem_of_getElem? (i := 1116) (by decide +kernel)⟩
theorem lw_p61 : lw_okq (⟨"PedalLayersModel", "sumOf", "(I)I"⟩, 9) := ⟨⟨by decide +kernel, by decide +kernel⟩, List.mem_of_getElem? (i := 799) (by decide +kernel), List.mem_of_getElem? (i := 1127) (by decide +kernel), List.mem_of_getElem? (i := 1128) (by decide +kernel)⟩
theorem lw_p62 : lw_okq (⟨"PedalLayersModel", "greatest", "()I"⟩, 9) := ⟨⟨by decide +kernel, by decide +kernel⟩, List.mem_of_getElem? (i := 799) (by decide +kernel), List.mem_of_getElem? (i := 1151) (by decide +kernel), List.mem_of_getElem? (i := 1152) (by decide +kernel)⟩
def lw_privs_4 : List (MethodName × Nat) := [(⟨"PedalLayersModel", "digit", "(I)I"⟩, 9), (⟨"PedalLayersModel", "behind", "(II)I"⟩, 9), (⟨"PedalLayersModel", "carries", "(I)I"⟩, 9), (⟨"PedalLayersModel", "numberAt", "(I)I"⟩, 9), (⟨"PedalLayersModel", "goes", "(II)I"⟩, 9), (⟨"PedalLayersModel", "forces", "(III)I"⟩, 9), (⟨"PedalLayersModel", "isCell", "(I)Z"⟩, 9), (⟨"PedalLayersModel", "ringOf", "(III)I"⟩, 9), (⟨"PedalLayersModel", "adds", "(III)I"⟩, 9), (⟨"PedalLayersModel", "sumIn", "(II)I"⟩, 9), (⟨"PedalLayersModel", "keys", "(II)I"⟩, 9), (⟨"PedalLayersModel", "buriedOf", "(I)I"⟩, 9), (⟨"PedalLayersModel", "comesAt", "(I)Z"⟩, 9), (⟨"PedalLayersModel", "sumOf", "(I)I"⟩, 9), (⟨"PedalLayersModel", "greatest", "()I"⟩, 9)]
theorem lw_r4 : ∀ q ∈ lw_privs_4, lw_okq q := List.forall_mem_cons.mpr ⟨lw_p48, List.forall_mem_cons.mpr ⟨lw_p49, List.forall_mem_cons.mpr ⟨lw_p50, List.forall_mem_cons.mpr ⟨lw_p51, List.forall_mem_cons.mpr ⟨lw_p52, List.forall_mem_cons.mpr ⟨lw_p53, List.forall_mem_cons.mpr ⟨lw_p54, List.forall_mem_cons.mpr ⟨lw_p55, List.forall_mem_cons.mpr ⟨lw_p56, List.forall_mem_cons.mpr ⟨lw_p57, List.forall_mem_cons.mpr ⟨lw_p58, List.forall_mem_cons.mpr ⟨lw_p59, List.forall_mem_cons.mpr ⟨lw_p60, List.forall_mem_cons.mpr ⟨lw_p61, List.forall_mem_cons.mpr ⟨lw_p62, fun _ h => absurd h List.not_mem_nil⟩⟩⟩⟩⟩⟩⟩⟩⟩⟩⟩⟩⟩⟩⟩
def lw_privs : List (MethodName × Nat) := lw_privs_1 ++ (lw_privs_2 ++ (lw_privs_3 ++ (lw_privs_4)))
def lw_tbl : List Cond := k2_sels lw_privs ++ tables_1
theorem lw_privs_ok : ∀ q ∈ lw_privs, lw_okq q := by
  show ∀ q ∈ lw_privs_1 ++ (lw_privs_2 ++ (lw_privs_3 ++ (lw_privs_4))), lw_okq q
  exact List.forall_mem_append.mpr ⟨lw_r1, List.forall_mem_append.mpr ⟨lw_r2, List.forall_mem_append.mpr ⟨lw_r3, lw_r4⟩⟩⟩
/-- the streams that the claim lets the run draw from -/
abbrev lw_cs : List Choice := [Jvm.Choice.named "NaN.bits"]
theorem lw_bits : nanBits ∈ lw_cs := by first | decide | exact List.mem_cons_self | simp [lw_cs, nanBits]
def R_law : String := "PedalLayersLaw"
def RX0 : String := "PedalLayers$Ear"
def TX0 : u_T := fun k => match k with
  | 0 => ("PedalLayers$Ear", "rings", "[I", true)
  | 1 => ("PedalLayers$Ear", "buriedNotes", "[I", true)
  | 2 => ("PedalLayers$Ear", "highestKeys", "[I", true)
  | _ => ("PedalLayers$Ear", "tuneKeys", "[I", true)
def tyX0 : Nat → FieldType := fun k => match k with
  | 0 => .array .int
  | 1 => .array .int
  | 2 => .array .int
  | _ => .array .int
abbrev wsX00 : List Cond := u_ws RX0 TX0 4
theorem nmX0 : ∀ a, a < 4 → ∀ b, b < 4 → a ≠ b → (TX0 a).2.1 ≠ (TX0 b).2.1 := by decide +kernel
theorem tyX0_ok : ∀ k, k < 4 → parseFieldDescriptor (TX0 k).2.2.1 = some (tyX0 k) := by decide +kernel
abbrev cX0_init : ByteArray := prog_2_method_1_code
def yX0_init : MethodName := ⟨RX0, "<init>", "()V"⟩
abbrev cX0_listen : ByteArray := prog_2_method_2_code
def yX0_listen : MethodName := ⟨RX0, "listen", "(LPedalLayers$Pedal;II)V"⟩
abbrev cX0_ringOf : ByteArray := prog_2_method_3_code
def yX0_ringOf : MethodName := ⟨RX0, "ringOf", "(I)I"⟩
abbrev cX0_howManyKeys : ByteArray := prog_2_method_4_code
def yX0_howManyKeys : MethodName := ⟨RX0, "howManyKeys", "()I"⟩
abbrev cX0_sum : ByteArray := prog_2_method_5_code
def yX0_sum : MethodName := ⟨RX0, "sum", "()I"⟩
abbrev cX0_highestKey : ByteArray := prog_2_method_6_code
def yX0_highestKey : MethodName := ⟨RX0, "highestKey", "()I"⟩
abbrev cX0_lowestKey : ByteArray := prog_2_method_7_code
def yX0_lowestKey : MethodName := ⟨RX0, "lowestKey", "()I"⟩
abbrev cX0_strongestKey : ByteArray := prog_2_method_8_code
def yX0_strongestKey : MethodName := ⟨RX0, "strongestKey", "()I"⟩
abbrev cX0_sumOfCells : ByteArray := prog_2_method_9_code
def yX0_sumOfCells : MethodName := ⟨RX0, "sumOfCells", "(LPedalLayers$Pedal;I)I"⟩
abbrev cX0_silentCells : ByteArray := prog_2_method_10_code
def yX0_silentCells : MethodName := ⟨RX0, "silentCells", "(LPedalLayers$Pedal;I)I"⟩
abbrev cX0_loudestCell : ByteArray := prog_2_method_11_code
def yX0_loudestCell : MethodName := ⟨RX0, "loudestCell", "(LPedalLayers$Pedal;)I"⟩
abbrev cX0_mostBuriedLayer : ByteArray := prog_2_method_12_code
def yX0_mostBuriedLayer : MethodName := ⟨RX0, "mostBuriedLayer", "(LPedalLayers$Pedal;)I"⟩
abbrev cX0_buriedOf : ByteArray := prog_2_method_13_code
def yX0_buriedOf : MethodName := ⟨RX0, "buriedOf", "(LPedalLayers$Pedal;II)I"⟩
abbrev cX0_howOften : ByteArray := prog_2_method_14_code
def yX0_howOften : MethodName := ⟨RX0, "howOften", "(LPedalLayers$Pedal;LPedalLayers$Pad;)I"⟩
abbrev cX0_beginsAt : ByteArray := prog_2_method_15_code
def yX0_beginsAt : MethodName := ⟨RX0, "beginsAt", "(III)Z"⟩
def RX1 : String := "PedalLayers$Halt"
def TX1 : u_T := fun k => match k with
  | 0 => ("PedalLayers$Halt", "known", "Z", false)
  | 1 => ("PedalLayers$Halt", "error", "I", false)
  | 2 => ("PedalLayers$Halt", "number", "I", false)
  | _ => ("PedalLayers$Halt", "position", "I", false)
def tyX1 : Nat → FieldType := fun k => match k with
  | 0 => .boolean
  | 1 => .int
  | 2 => .int
  | _ => .int
abbrev wsX10 : List Cond := u_ws RX1 TX1 4
theorem nmX1 : ∀ a, a < 4 → ∀ b, b < 4 → a ≠ b → (TX1 a).2.1 ≠ (TX1 b).2.1 := by decide +kernel
theorem tyX1_ok : ∀ k, k < 4 → parseFieldDescriptor (TX1 k).2.2.1 = some (tyX1 k) := by decide +kernel
abbrev cX1_init : ByteArray := prog_3_method_1_code
def yX1_init : MethodName := ⟨RX1, "<init>", "()V"⟩
abbrev cX1_isKnown : ByteArray := prog_3_method_2_code
def yX1_isKnown : MethodName := ⟨RX1, "isKnown", "()Z"⟩
abbrev cX1_forget : ByteArray := prog_3_method_3_code
def yX1_forget : MethodName := ⟨RX1, "forget", "()V"⟩
abbrev cX1_keep : ByteArray := prog_3_method_4_code
def yX1_keep : MethodName := ⟨RX1, "keep", "(III)V"⟩
abbrev cX1_tell : ByteArray := prog_3_method_5_code
def yX1_tell : MethodName := ⟨RX1, "tell", "(I)I"⟩
def RX2 : String := "PedalLayers$History"
def TX2 : u_T := fun k => match k with
  | 0 => ("PedalLayers$History", "states", "[LPedalLayers$Pedal;", true)
  | 1 => ("PedalLayers$History", "oldest", "I", false)
  | _ => ("PedalLayers$History", "size", "I", false)
def tyX2 : Nat → FieldType := fun k => match k with
  | 0 => .array (.object "PedalLayers$Pedal")
  | 1 => .int
  | _ => .int
abbrev wsX20 : List Cond := u_ws RX2 TX2 3
theorem nmX2 : ∀ a, a < 3 → ∀ b, b < 3 → a ≠ b → (TX2 a).2.1 ≠ (TX2 b).2.1 := by decide +kernel
theorem tyX2_ok : ∀ k, k < 3 → parseFieldDescriptor (TX2 k).2.2.1 = some (tyX2 k) := by decide +kernel
abbrev cX2_init : ByteArray := prog_4_method_1_code
def yX2_init : MethodName := ⟨RX2, "<init>", "()V"⟩
abbrev cX2_size : ByteArray := prog_4_method_2_code
def yX2_size : MethodName := ⟨RX2, "size", "()I"⟩
abbrev cX2_stateAt : ByteArray := prog_4_method_3_code
def yX2_stateAt : MethodName := ⟨RX2, "stateAt", "(I)LPedalLayers$Pedal;"⟩
abbrev cX2_prepare : ByteArray := prog_4_method_4_code
def yX2_prepare : MethodName := ⟨RX2, "prepare", "(LPedalLayers$Pedal;)V"⟩
abbrev cX2_keep : ByteArray := prog_4_method_5_code
def yX2_keep : MethodName := ⟨RX2, "keep", "()V"⟩
abbrev cX2_takeLatest : ByteArray := prog_4_method_6_code
def yX2_takeLatest : MethodName := ⟨RX2, "takeLatest", "()LPedalLayers$Pedal;"⟩
def RX3 : String := "PedalLayers$Layer"
def TX3 : u_T := fun k => match k with
  | 0 => ("PedalLayers$Layer", "notes", "LPedalLayers$Notes;", true)
  | 1 => ("PedalLayers$Layer", "muted", "Z", false)
  | _ => ("PedalLayers$Layer", "passes", "I", false)
def tyX3 : Nat → FieldType := fun k => match k with
  | 0 => .object "PedalLayers$Notes"
  | 1 => .boolean
  | _ => .int
abbrev wsX30 : List Cond := u_ws RX3 TX3 3
theorem nmX3 : ∀ a, a < 3 → ∀ b, b < 3 → a ≠ b → (TX3 a).2.1 ≠ (TX3 b).2.1 := by decide +kernel
theorem tyX3_ok : ∀ k, k < 3 → parseFieldDescriptor (TX3 k).2.2.1 = some (tyX3 k) := by decide +kernel
abbrev cX3_init : ByteArray := prog_5_method_1_code
def yX3_init : MethodName := ⟨RX3, "<init>", "()V"⟩
abbrev cX3_copyFrom : ByteArray := prog_5_method_2_code
def yX3_copyFrom : MethodName := ⟨RX3, "copyFrom", "(LPedalLayers$Layer;)V"⟩
def RX4 : String := "PedalLayers$Notes"
def TX4 : u_T := fun k => match k with
  | 0 => ("PedalLayers$Notes", "forces", "[I", true)
  | _ => ("PedalLayers$Notes", "cells", "I", false)
def tyX4 : Nat → FieldType := fun k => match k with
  | 0 => .array .int
  | _ => .int
abbrev wsX40 : List Cond := u_ws RX4 TX4 2
theorem nmX4 : ∀ a, a < 2 → ∀ b, b < 2 → a ≠ b → (TX4 a).2.1 ≠ (TX4 b).2.1 := by decide +kernel
theorem tyX4_ok : ∀ k, k < 2 → parseFieldDescriptor (TX4 k).2.2.1 = some (tyX4 k) := by decide +kernel
abbrev cX4_init : ByteArray := prog_6_method_1_code
def yX4_init : MethodName := ⟨RX4, "<init>", "()V"⟩
abbrev cX4_cells : ByteArray := prog_6_method_2_code
def yX4_cells : MethodName := ⟨RX4, "cells", "()I"⟩
abbrev cX4_at : ByteArray := prog_6_method_3_code
def yX4_at : MethodName := ⟨RX4, "at", "(II)I"⟩
abbrev cX4_add : ByteArray := prog_6_method_4_code
def yX4_add : MethodName := ⟨RX4, "add", "(III)I"⟩
abbrev cX4_clear : ByteArray := prog_6_method_5_code
def yX4_clear : MethodName := ⟨RX4, "clear", "(I)V"⟩
abbrev cX4_copyFrom : ByteArray := prog_6_method_6_code
def yX4_copyFrom : MethodName := ⟨RX4, "copyFrom", "(LPedalLayers$Notes;I)V"⟩
abbrev cX4_fold : ByteArray := prog_6_method_7_code
def yX4_fold : MethodName := ⟨RX4, "fold", "(I)V"⟩
abbrev cX4_fade : ByteArray := prog_6_method_8_code
def yX4_fade : MethodName := ⟨RX4, "fade", "(I)V"⟩
abbrev cX4_howMany : ByteArray := prog_6_method_9_code
def yX4_howMany : MethodName := ⟨RX4, "howMany", "()I"⟩
abbrev cX4_sum : ByteArray := prog_6_method_10_code
def yX4_sum : MethodName := ⟨RX4, "sum", "()I"⟩
abbrev cX4_greatestFrom : ByteArray := prog_6_method_11_code
def yX4_greatestFrom : MethodName := ⟨RX4, "greatestFrom", "(I)I"⟩
def RX5 : String := "PedalLayers$OrderReading"
def TX5 : u_T := fun k => match k with
  | _ => ("", "", "", false)
def tyX5 : Nat → FieldType := fun k => match k with
  | _ => .int
abbrev wsX50 : List Cond := u_ws RX5 TX5 0
theorem nmX5 : ∀ a, a < 0 → ∀ b, b < 0 → a ≠ b → (TX5 a).2.1 ≠ (TX5 b).2.1 := by decide +kernel
theorem tyX5_ok : ∀ k, k < 0 → parseFieldDescriptor (TX5 k).2.2.1 = some (tyX5 k) := by decide +kernel
abbrev cX5_init : ByteArray := prog_7_method_1_code
def yX5_init : MethodName := ⟨RX5, "<init>", "()V"⟩
abbrev cX5_next : ByteArray := prog_7_method_2_code
def yX5_next : MethodName := ⟨RX5, "next", "(IC)I"⟩
abbrev cX5_letter : ByteArray := prog_7_method_3_code
def yX5_letter : MethodName := ⟨RX5, "letter", "(C)I"⟩
abbrev cX5_isComplete : ByteArray := prog_7_method_4_code
def yX5_isComplete : MethodName := ⟨RX5, "isComplete", "(I)Z"⟩
def RX6 : String := "PedalLayers$Pad"
def TX6 : u_T := fun k => match k with
  | 0 => ("PedalLayers$Pad", "signs", "[C", true)
  | _ => ("PedalLayers$Pad", "length", "I", false)
def tyX6 : Nat → FieldType := fun k => match k with
  | 0 => .array .char
  | _ => .int
abbrev wsX60 : List Cond := u_ws RX6 TX6 2
theorem nmX6 : ∀ a, a < 2 → ∀ b, b < 2 → a ≠ b → (TX6 a).2.1 ≠ (TX6 b).2.1 := by decide +kernel
theorem tyX6_ok : ∀ k, k < 2 → parseFieldDescriptor (TX6 k).2.2.1 = some (tyX6 k) := by decide +kernel
abbrev cX6_init : ByteArray := prog_8_method_1_code
def yX6_init : MethodName := ⟨RX6, "<init>", "()V"⟩
abbrev cX6_size : ByteArray := prog_8_method_2_code
def yX6_size : MethodName := ⟨RX6, "size", "()I"⟩
abbrev cX6_add : ByteArray := prog_8_method_3_code
def yX6_add : MethodName := ⟨RX6, "add", "(I)I"⟩
abbrev cX6_wipe : ByteArray := prog_8_method_4_code
def yX6_wipe : MethodName := ⟨RX6, "wipe", "()I"⟩
abbrev cX6_signAt : ByteArray := prog_8_method_5_code
def yX6_signAt : MethodName := ⟨RX6, "signAt", "(I)C"⟩
abbrev cX6_isLetter : ByteArray := prog_8_method_6_code
def yX6_isLetter : MethodName := ⟨RX6, "isLetter", "(I)Z"⟩
abbrev cX6_behindNumber : ByteArray := prog_8_method_7_code
def yX6_behindNumber : MethodName := ⟨RX6, "behindNumber", "(I)I"⟩
abbrev cX6_numberAt : ByteArray := prog_8_method_8_code
def yX6_numberAt : MethodName := ⟨RX6, "numberAt", "(I)I"⟩
abbrev cX6_firstFault : ByteArray := prog_8_method_9_code
def yX6_firstFault : MethodName := ⟨RX6, "firstFault", "(LPedalLayers$Reading;)I"⟩
abbrev cX6_readTune : ByteArray := prog_8_method_10_code
def yX6_readTune : MethodName := ⟨RX6, "readTune", "([I)I"⟩
abbrev cX6_isDigit : ByteArray := prog_8_method_11_code
def yX6_isDigit : MethodName := ⟨RX6, "isDigit", "(C)Z"⟩
def RX7 : String := "PedalLayers$Pedal"
def TX7 : u_T := fun k => match k with
  | 0 => ("PedalLayers$Pedal", "settings", "[I", true)
  | 1 => ("PedalLayers$Pedal", "layers", "[LPedalLayers$Layer;", true)
  | 2 => ("PedalLayers$Pedal", "take", "LPedalLayers$Take;", true)
  | 3 => ("PedalLayers$Pedal", "half", "Z", false)
  | 4 => ("PedalLayers$Pedal", "mode", "I", false)
  | 5 => ("PedalLayers$Pedal", "onLoop", "I", false)
  | 6 => ("PedalLayers$Pedal", "inDrawer", "I", false)
  | 7 => ("PedalLayers$Pedal", "place", "I", false)
  | 8 => ("PedalLayers$Pedal", "passes", "I", false)
  | 9 => ("PedalLayers$Pedal", "played", "I", false)
  | _ => ("PedalLayers$Pedal", "laid", "I", false)
def tyX7 : Nat → FieldType := fun k => match k with
  | 0 => .array .int
  | 1 => .array (.object "PedalLayers$Layer")
  | 2 => .object "PedalLayers$Take"
  | 3 => .boolean
  | 4 => .int
  | 5 => .int
  | 6 => .int
  | 7 => .int
  | 8 => .int
  | 9 => .int
  | _ => .int
abbrev wsX70 : List Cond := u_ws RX7 TX7 11
theorem nmX7 : ∀ a, a < 11 → ∀ b, b < 11 → a ≠ b → (TX7 a).2.1 ≠ (TX7 b).2.1 := by decide +kernel
theorem tyX7_ok : ∀ k, k < 11 → parseFieldDescriptor (TX7 k).2.2.1 = some (tyX7 k) := by decide +kernel
abbrev cX7_init : ByteArray := prog_9_method_1_code
def yX7_init : MethodName := ⟨RX7, "<init>", "()V"⟩
abbrev cX7_copyFrom : ByteArray := prog_9_method_2_code
def yX7_copyFrom : MethodName := ⟨RX7, "copyFrom", "(LPedalLayers$Pedal;)V"⟩
abbrev cX7_copyLayer : ByteArray := prog_9_method_3_code
def yX7_copyLayer : MethodName := ⟨RX7, "copyLayer", "(LPedalLayers$Layer;LPedalLayers$Layer;)V"⟩
abbrev cX7_layerAt : ByteArray := prog_9_method_4_code
def yX7_layerAt : MethodName := ⟨RX7, "layerAt", "(I)LPedalLayers$Layer;"⟩
abbrev cX7_layerOnLoop : ByteArray := prog_9_method_5_code
def yX7_layerOnLoop : MethodName := ⟨RX7, "layerOnLoop", "(I)LPedalLayers$Layer;"⟩
abbrev cX7_setting : ByteArray := prog_9_method_6_code
def yX7_setting : MethodName := ⟨RX7, "setting", "(I)I"⟩
abbrev cX7_takeRuns : ByteArray := prog_9_method_7_code
def yX7_takeRuns : MethodName := ⟨RX7, "takeRuns", "()Z"⟩
abbrev cX7_loopPlays : ByteArray := prog_9_method_8_code
def yX7_loopPlays : MethodName := ⟨RX7, "loopPlays", "()Z"⟩
abbrev cX7_loopLength : ByteArray := prog_9_method_9_code
def yX7_loopLength : MethodName := ⟨RX7, "loopLength", "(I)I"⟩
abbrev cX7_firstLength : ByteArray := prog_9_method_10_code
def yX7_firstLength : MethodName := ⟨RX7, "firstLength", "()I"⟩
abbrev cX7_isCell : ByteArray := prog_9_method_11_code
def yX7_isCell : MethodName := ⟨RX7, "isCell", "(I)Z"⟩
abbrev cX7_lowestHeardKey : ByteArray := prog_9_method_12_code
def yX7_lowestHeardKey : MethodName := ⟨RX7, "lowestHeardKey", "()I"⟩
abbrev cX7_soundingLayer : ByteArray := prog_9_method_13_code
def yX7_soundingLayer : MethodName := ⟨RX7, "soundingLayer", "(I)LPedalLayers$Layer;"⟩
abbrev cX7_greatestHeardForce : ByteArray := prog_9_method_14_code
def yX7_greatestHeardForce : MethodName := ⟨RX7, "greatestHeardForce", "()I"⟩
abbrev cX7_wholeBars : ByteArray := prog_9_method_15_code
def yX7_wholeBars : MethodName := ⟨RX7, "wholeBars", "(I)I"⟩
abbrev cX7_pressPedal : ByteArray := prog_9_method_16_code
def yX7_pressPedal : MethodName := ⟨RX7, "pressPedal", "()I"⟩
abbrev cX7_beginFirstTake : ByteArray := prog_9_method_17_code
def yX7_beginFirstTake : MethodName := ⟨RX7, "beginFirstTake", "()I"⟩
abbrev cX7_beginTakeOver : ByteArray := prog_9_method_18_code
def yX7_beginTakeOver : MethodName := ⟨RX7, "beginTakeOver", "()I"⟩
abbrev cX7_startLoop : ByteArray := prog_9_method_19_code
def yX7_startLoop : MethodName := ⟨RX7, "startLoop", "()I"⟩
abbrev cX7_endTake : ByteArray := prog_9_method_20_code
def yX7_endTake : MethodName := ⟨RX7, "endTake", "()I"⟩
abbrev cX7_lay : ByteArray := prog_9_method_21_code
def yX7_lay : MethodName := ⟨RX7, "lay", "(I)V"⟩
abbrev cX7_stopPedal : ByteArray := prog_9_method_22_code
def yX7_stopPedal : MethodName := ⟨RX7, "stopPedal", "()I"⟩
abbrev cX7_throwAllAway : ByteArray := prog_9_method_23_code
def yX7_throwAllAway : MethodName := ⟨RX7, "throwAllAway", "()I"⟩
abbrev cX7_hitNote : ByteArray := prog_9_method_24_code
def yX7_hitNote : MethodName := ⟨RX7, "hitNote", "(II)I"⟩
abbrev cX7_cellOfTake : ByteArray := prog_9_method_25_code
def yX7_cellOfTake : MethodName := ⟨RX7, "cellOfTake", "()I"⟩
abbrev cX7_runTicks : ByteArray := prog_9_method_26_code
def yX7_runTicks : MethodName := ⟨RX7, "runTicks", "(I)I"⟩
abbrev cX7_longestTake : ByteArray := prog_9_method_27_code
def yX7_longestTake : MethodName := ⟨RX7, "longestTake", "()I"⟩
abbrev cX7_moveLoop : ByteArray := prog_9_method_28_code
def yX7_moveLoop : MethodName := ⟨RX7, "moveLoop", "(I)I"⟩
abbrev cX7_fadeLayers : ByteArray := prog_9_method_29_code
def yX7_fadeLayers : MethodName := ⟨RX7, "fadeLayers", "()V"⟩
abbrev cX7_peelOff : ByteArray := prog_9_method_30_code
def yX7_peelOff : MethodName := ⟨RX7, "peelOff", "()I"⟩
abbrev cX7_putBack : ByteArray := prog_9_method_31_code
def yX7_putBack : MethodName := ⟨RX7, "putBack", "()I"⟩
abbrev cX7_switchMute : ByteArray := prog_9_method_32_code
def yX7_switchMute : MethodName := ⟨RX7, "switchMute", "(I)I"⟩
abbrev cX7_switchSpeed : ByteArray := prog_9_method_33_code
def yX7_switchSpeed : MethodName := ⟨RX7, "switchSpeed", "()I"⟩
abbrev cX7_changeSetting : ByteArray := prog_9_method_34_code
def yX7_changeSetting : MethodName := ⟨RX7, "changeSetting", "(II)I"⟩
def RX8 : String := "PedalLayers$Reading"
def TX8 : u_T := fun k => match k with
  | _ => ("", "", "", false)
def tyX8 : Nat → FieldType := fun k => match k with
  | _ => .int
abbrev wsX80 : List Cond := u_ws RX8 TX8 0
theorem nmX8 : ∀ a, a < 0 → ∀ b, b < 0 → a ≠ b → (TX8 a).2.1 ≠ (TX8 b).2.1 := by decide +kernel
theorem tyX8_ok : ∀ k, k < 0 → parseFieldDescriptor (TX8 k).2.2.1 = some (tyX8 k) := by decide +kernel
abbrev cX8_init : ByteArray := prog_10_method_1_code
def yX8_init : MethodName := ⟨RX8, "<init>", "()V"⟩
def RX9 : String := "PedalLayers$Take"
def TX9 : u_T := fun k => match k with
  | 0 => ("PedalLayers$Take", "notes", "LPedalLayers$Notes;", true)
  | 1 => ("PedalLayers$Take", "halves", "I", false)
  | _ => ("PedalLayers$Take", "start", "I", false)
def tyX9 : Nat → FieldType := fun k => match k with
  | 0 => .object "PedalLayers$Notes"
  | 1 => .int
  | _ => .int
abbrev wsX90 : List Cond := u_ws RX9 TX9 3
theorem nmX9 : ∀ a, a < 3 → ∀ b, b < 3 → a ≠ b → (TX9 a).2.1 ≠ (TX9 b).2.1 := by decide +kernel
theorem tyX9_ok : ∀ k, k < 3 → parseFieldDescriptor (TX9 k).2.2.1 = some (tyX9 k) := by decide +kernel
abbrev cX9_init : ByteArray := prog_11_method_1_code
def yX9_init : MethodName := ⟨RX9, "<init>", "()V"⟩
abbrev cX9_begin : ByteArray := prog_11_method_2_code
def yX9_begin : MethodName := ⟨RX9, "begin", "(II)V"⟩
abbrev cX9_copyFrom : ByteArray := prog_11_method_3_code
def yX9_copyFrom : MethodName := ⟨RX9, "copyFrom", "(LPedalLayers$Take;)V"⟩
def RX10 : String := "PedalLayers$TuneReading"
def TX10 : u_T := fun k => match k with
  | _ => ("", "", "", false)
def tyX10 : Nat → FieldType := fun k => match k with
  | _ => .int
abbrev wsX100 : List Cond := u_ws RX10 TX10 0
theorem nmX10 : ∀ a, a < 0 → ∀ b, b < 0 → a ≠ b → (TX10 a).2.1 ≠ (TX10 b).2.1 := by decide +kernel
theorem tyX10_ok : ∀ k, k < 0 → parseFieldDescriptor (TX10 k).2.2.1 = some (tyX10 k) := by decide +kernel
abbrev cX10_init : ByteArray := prog_12_method_1_code
def yX10_init : MethodName := ⟨RX10, "<init>", "()V"⟩
abbrev cX10_next : ByteArray := prog_12_method_2_code
def yX10_next : MethodName := ⟨RX10, "next", "(IC)I"⟩
abbrev cX10_behindFirstDigit : ByteArray := prog_12_method_3_code
def yX10_behindFirstDigit : MethodName := ⟨RX10, "behindFirstDigit", "(C)I"⟩
abbrev cX10_isComplete : ByteArray := prog_12_method_4_code
def yX10_isComplete : MethodName := ⟨RX10, "isComplete", "(I)Z"⟩
def RX11 : String := "PedalLayers"
def TX11 : u_T := fun k => match k with
  | 0 => ("PedalLayers", "now", "LPedalLayers$Pedal;", true)
  | 1 => ("PedalLayers", "snapshot", "LPedalLayers$Pedal;", true)
  | 2 => ("PedalLayers", "history", "LPedalLayers$History;", true)
  | 3 => ("PedalLayers", "pad", "LPedalLayers$Pad;", true)
  | 4 => ("PedalLayers", "orders", "LPedalLayers$OrderReading;", true)
  | 5 => ("PedalLayers", "tune", "LPedalLayers$TuneReading;", true)
  | 6 => ("PedalLayers", "halt", "LPedalLayers$Halt;", true)
  | 7 => ("PedalLayers", "ear", "LPedalLayers$Ear;", true)
  | _ => ("PedalLayers", "snapshotTaken", "Z", false)
def tyX11 : Nat → FieldType := fun k => match k with
  | 0 => .object "PedalLayers$Pedal"
  | 1 => .object "PedalLayers$Pedal"
  | 2 => .object "PedalLayers$History"
  | 3 => .object "PedalLayers$Pad"
  | 4 => .object "PedalLayers$OrderReading"
  | 5 => .object "PedalLayers$TuneReading"
  | 6 => .object "PedalLayers$Halt"
  | 7 => .object "PedalLayers$Ear"
  | _ => .boolean
abbrev wsX110 : List Cond := u_ws RX11 TX11 9
theorem nmX11 : ∀ a, a < 9 → ∀ b, b < 9 → a ≠ b → (TX11 a).2.1 ≠ (TX11 b).2.1 := by decide +kernel
theorem tyX11_ok : ∀ k, k < 9 → parseFieldDescriptor (TX11 k).2.2.1 = some (tyX11 k) := by decide +kernel
abbrev cX11_init : ByteArray := prog_1_method_1_code
def yX11_init : MethodName := ⟨RX11, "<init>", "()V"⟩
abbrev cX11_press : ByteArray := prog_1_method_2_code
def yX11_press : MethodName := ⟨RX11, "press", "()I"⟩
abbrev cX11_stop : ByteArray := prog_1_method_3_code
def yX11_stop : MethodName := ⟨RX11, "stop", "()I"⟩
abbrev cX11_empty : ByteArray := prog_1_method_4_code
def yX11_empty : MethodName := ⟨RX11, "empty", "()I"⟩
abbrev cX11_hit : ByteArray := prog_1_method_5_code
def yX11_hit : MethodName := ⟨RX11, "hit", "(II)I"⟩
abbrev cX11_pass : ByteArray := prog_1_method_6_code
def yX11_pass : MethodName := ⟨RX11, "pass", "(I)I"⟩
abbrev cX11_peel : ByteArray := prog_1_method_7_code
def yX11_peel : MethodName := ⟨RX11, "peel", "()I"⟩
abbrev cX11_back : ByteArray := prog_1_method_8_code
def yX11_back : MethodName := ⟨RX11, "back", "()I"⟩
abbrev cX11_mute : ByteArray := prog_1_method_9_code
def yX11_mute : MethodName := ⟨RX11, "mute", "(I)I"⟩
abbrev cX11_speed : ByteArray := prog_1_method_10_code
def yX11_speed : MethodName := ⟨RX11, "speed", "()I"⟩
abbrev cX11_set : ByteArray := prog_1_method_11_code
def yX11_set : MethodName := ⟨RX11, "set", "(II)I"⟩
abbrev cX11_append : ByteArray := prog_1_method_12_code
def yX11_append : MethodName := ⟨RX11, "append", "(I)I"⟩
abbrev cX11_erase : ByteArray := prog_1_method_13_code
def yX11_erase : MethodName := ⟨RX11, "erase", "()I"⟩
abbrev cX11_fault : ByteArray := prog_1_method_14_code
def yX11_fault : MethodName := ⟨RX11, "fault", "(I)I"⟩
abbrev cX11_play : ByteArray := prog_1_method_15_code
def yX11_play : MethodName := ⟨RX11, "play", "()I"⟩
abbrev cX11_why : ByteArray := prog_1_method_16_code
def yX11_why : MethodName := ⟨RX11, "why", "(I)I"⟩
abbrev cX11_layer : ByteArray := prog_1_method_17_code
def yX11_layer : MethodName := ⟨RX11, "layer", "(II)I"⟩
abbrev cX11_note : ByteArray := prog_1_method_18_code
def yX11_note : MethodName := ⟨RX11, "note", "(III)I"⟩
abbrev cX11_ring : ByteArray := prog_1_method_19_code
def yX11_ring : MethodName := ⟨RX11, "ring", "(II)I"⟩
abbrev cX11_heard : ByteArray := prog_1_method_20_code
def yX11_heard : MethodName := ⟨RX11, "heard", "(II)I"⟩
abbrev cX11_loudest : ByteArray := prog_1_method_21_code
def yX11_loudest : MethodName := ⟨RX11, "loudest", "()I"⟩
abbrev cX11_buried : ByteArray := prog_1_method_22_code
def yX11_buried : MethodName := ⟨RX11, "buried", "()I"⟩
abbrev cX11_tunes : ByteArray := prog_1_method_23_code
def yX11_tunes : MethodName := ⟨RX11, "tunes", "()I"⟩
abbrev cX11_count : ByteArray := prog_1_method_24_code
def yX11_count : MethodName := ⟨RX11, "count", "(I)I"⟩
abbrev cX11_loudness : ByteArray := prog_1_method_25_code
def yX11_loudness : MethodName := ⟨RX11, "loudness", "()D"⟩
abbrev cX11_barIn : ByteArray := prog_1_method_26_code
def yX11_barIn : MethodName := ⟨RX11, "barIn", "()I"⟩
abbrev cX11_drift : ByteArray := prog_1_method_27_code
def yX11_drift : MethodName := ⟨RX11, "drift", "(I)I"⟩
abbrev cX11_meets : ByteArray := prog_1_method_28_code
def yX11_meets : MethodName := ⟨RX11, "meets", "()I"⟩
abbrev cX11_rounded : ByteArray := prog_1_method_29_code
def yX11_rounded : MethodName := ⟨RX11, "rounded", "(I)I"⟩
abbrev cX11_silentIn : ByteArray := prog_1_method_30_code
def yX11_silentIn : MethodName := ⟨RX11, "silentIn", "()I"⟩
abbrev cX11_ifPeeled : ByteArray := prog_1_method_31_code
def yX11_ifPeeled : MethodName := ⟨RX11, "ifPeeled", "(II)I"⟩
abbrev cX11_undo : ByteArray := prog_1_method_32_code
def yX11_undo : MethodName := ⟨RX11, "undo", "()I"⟩
abbrev cX11_save : ByteArray := prog_1_method_33_code
def yX11_save : MethodName := ⟨RX11, "save", "()I"⟩
abbrev cX11_restore : ByteArray := prog_1_method_34_code
def yX11_restore : MethodName := ⟨RX11, "restore", "()I"⟩
abbrev cX11_settle : ByteArray := prog_1_method_35_code
def yX11_settle : MethodName := ⟨RX11, "settle", "(I)I"⟩
abbrev cX11_carryOut : ByteArray := prog_1_method_36_code
def yX11_carryOut : MethodName := ⟨RX11, "carryOut", "(I)I"⟩
abbrev cX11_isKey : ByteArray := prog_1_method_37_code
def yX11_isKey : MethodName := ⟨RX11, "isKey", "(I)Z"⟩
abbrev cX11_isValueOf : ByteArray := prog_1_method_38_code
def yX11_isValueOf : MethodName := ⟨RX11, "isValueOf", "(II)Z"⟩
abbrev cX11_rest : ByteArray := prog_1_method_39_code
def yX11_rest : MethodName := ⟨RX11, "rest", "(II)I"⟩
abbrev cX11_untilMultiple : ByteArray := prog_1_method_40_code
def yX11_untilMultiple : MethodName := ⟨RX11, "untilMultiple", "(II)I"⟩
abbrev cX11_faded : ByteArray := prog_1_method_41_code
def yX11_faded : MethodName := ⟨RX11, "faded", "(II)I"⟩
def RX12 : String := "PedalLayersModel"
def TX12 : u_T := fun k => match k with
  | 0 => ("PedalLayersModel", "s", "[J", true)
  | 1 => ("PedalLayersModel", "past", "[J", true)
  | 2 => ("PedalLayersModel", "known", "I", false)
  | 3 => ("PedalLayersModel", "snap", "[J", true)
  | 4 => ("PedalLayersModel", "isSaved", "Z", false)
  | 5 => ("PedalLayersModel", "pad", "[I", true)
  | 6 => ("PedalLayersModel", "length", "I", false)
  | 7 => ("PedalLayersModel", "stopped", "[I", true)
  | _ => ("PedalLayersModel", "isStopped", "Z", false)
def tyX12 : Nat → FieldType := fun k => match k with
  | 0 => .array .long
  | 1 => .array .long
  | 2 => .int
  | 3 => .array .long
  | 4 => .boolean
  | 5 => .array .int
  | 6 => .int
  | 7 => .array .int
  | _ => .boolean
abbrev wsX120 : List Cond := u_ws RX12 TX12 9
theorem nmX12 : ∀ a, a < 9 → ∀ b, b < 9 → a ≠ b → (TX12 a).2.1 ≠ (TX12 b).2.1 := by decide +kernel
theorem tyX12_ok : ∀ k, k < 9 → parseFieldDescriptor (TX12 k).2.2.1 = some (tyX12 k) := by decide +kernel
abbrev cX12_init : ByteArray := prog_14_method_1_code
def yX12_init : MethodName := ⟨RX12, "<init>", "()V"⟩
abbrev cX12_in : ByteArray := prog_14_method_3_code
def yX12_in : MethodName := ⟨RX12, "in", "(III)Z"⟩
abbrev cX12_of : ByteArray := prog_14_method_4_code
def yX12_of : MethodName := ⟨RX12, "of", "(I)I"⟩
abbrev cX12_remembers : ByteArray := prog_14_method_5_code
def yX12_remembers : MethodName := ⟨RX12, "remembers", "()V"⟩
abbrev cX12_force : ByteArray := prog_14_method_6_code
def yX12_force : MethodName := ⟨RX12, "force", "(III)I"⟩
abbrev cX12_sets : ByteArray := prog_14_method_7_code
def yX12_sets : MethodName := ⟨RX12, "sets", "(IIII)V"⟩
abbrev cX12_clears : ByteArray := prog_14_method_8_code
def yX12_clears : MethodName := ⟨RX12, "clears", "(I)V"⟩
abbrev cX12_both : ByteArray := prog_14_method_9_code
def yX12_both : MethodName := ⟨RX12, "both", "(II)I"⟩
abbrev cX12_isLayer : ByteArray := prog_14_method_10_code
def yX12_isLayer : MethodName := ⟨RX12, "isLayer", "(I)Z"⟩
abbrev cX12_lengthOf : ByteArray := prog_14_method_11_code
def yX12_lengthOf : MethodName := ⟨RX12, "lengthOf", "(I)I"⟩
abbrev cX12_loop : ByteArray := prog_14_method_12_code
def yX12_loop : MethodName := ⟨RX12, "loop", "()I"⟩
abbrev cX12_runsTake : ByteArray := prog_14_method_13_code
def yX12_runsTake : MethodName := ⟨RX12, "runsTake", "()Z"⟩
abbrev cX12_starts : ByteArray := prog_14_method_14_code
def yX12_starts : MethodName := ⟨RX12, "starts", "()V"⟩
abbrev cX12_beginsTake : ByteArray := prog_14_method_15_code
def yX12_beginsTake : MethodName := ⟨RX12, "beginsTake", "()V"⟩
abbrev cX12_endsTake : ByteArray := prog_14_method_16_code
def yX12_endsTake : MethodName := ⟨RX12, "endsTake", "()V"⟩
abbrev cX12_lays : ByteArray := prog_14_method_17_code
def yX12_lays : MethodName := ⟨RX12, "lays", "(II)V"⟩
abbrev cX12_roundedOf : ByteArray := prog_14_method_18_code
def yX12_roundedOf : MethodName := ⟨RX12, "roundedOf", "(I)I"⟩
abbrev cX12_endsFirst : ByteArray := prog_14_method_19_code
def yX12_endsFirst : MethodName := ⟨RX12, "endsFirst", "()V"⟩
abbrev cX12_endsOver : ByteArray := prog_14_method_20_code
def yX12_endsOver : MethodName := ⟨RX12, "endsOver", "()V"⟩
abbrev cX12_whyNotPress : ByteArray := prog_14_method_21_code
def yX12_whyNotPress : MethodName := ⟨RX12, "whyNotPress", "()I"⟩
abbrev cX12_presses : ByteArray := prog_14_method_22_code
def yX12_presses : MethodName := ⟨RX12, "presses", "()V"⟩
abbrev cX12_whyNotStop : ByteArray := prog_14_method_23_code
def yX12_whyNotStop : MethodName := ⟨RX12, "whyNotStop", "()I"⟩
abbrev cX12_stops : ByteArray := prog_14_method_24_code
def yX12_stops : MethodName := ⟨RX12, "stops", "()V"⟩
abbrev cX12_fades : ByteArray := prog_14_method_25_code
def yX12_fades : MethodName := ⟨RX12, "fades", "()V"⟩
abbrev cX12_ticks : ByteArray := prog_14_method_26_code
def yX12_ticks : MethodName := ⟨RX12, "ticks", "()I"⟩
abbrev cX12_passes : ByteArray := prog_14_method_27_code
def yX12_passes : MethodName := ⟨RX12, "passes", "(I)I"⟩
abbrev cX12_whyNotHit : ByteArray := prog_14_method_28_code
def yX12_whyNotHit : MethodName := ⟨RX12, "whyNotHit", "(II)I"⟩
abbrev cX12_hits : ByteArray := prog_14_method_29_code
def yX12_hits : MethodName := ⟨RX12, "hits", "(II)I"⟩
abbrev cX12_whyNotPeel : ByteArray := prog_14_method_30_code
def yX12_whyNotPeel : MethodName := ⟨RX12, "whyNotPeel", "()I"⟩
abbrev cX12_peels : ByteArray := prog_14_method_31_code
def yX12_peels : MethodName := ⟨RX12, "peels", "()V"⟩
abbrev cX12_whyNotBack : ByteArray := prog_14_method_32_code
def yX12_whyNotBack : MethodName := ⟨RX12, "whyNotBack", "()I"⟩
abbrev cX12_backs : ByteArray := prog_14_method_33_code
def yX12_backs : MethodName := ⟨RX12, "backs", "()V"⟩
abbrev cX12_press : ByteArray := prog_14_method_34_code
def yX12_press : MethodName := ⟨RX12, "press", "()I"⟩
abbrev cX12_stop : ByteArray := prog_14_method_35_code
def yX12_stop : MethodName := ⟨RX12, "stop", "()I"⟩
abbrev cX12_empty : ByteArray := prog_14_method_36_code
def yX12_empty : MethodName := ⟨RX12, "empty", "()I"⟩
abbrev cX12_hit : ByteArray := prog_14_method_37_code
def yX12_hit : MethodName := ⟨RX12, "hit", "(II)I"⟩
abbrev cX12_pass : ByteArray := prog_14_method_38_code
def yX12_pass : MethodName := ⟨RX12, "pass", "(I)I"⟩
abbrev cX12_peel : ByteArray := prog_14_method_39_code
def yX12_peel : MethodName := ⟨RX12, "peel", "()I"⟩
abbrev cX12_back : ByteArray := prog_14_method_40_code
def yX12_back : MethodName := ⟨RX12, "back", "()I"⟩
abbrev cX12_mute : ByteArray := prog_14_method_41_code
def yX12_mute : MethodName := ⟨RX12, "mute", "(I)I"⟩
abbrev cX12_speed : ByteArray := prog_14_method_42_code
def yX12_speed : MethodName := ⟨RX12, "speed", "()I"⟩
abbrev cX12_set : ByteArray := prog_14_method_43_code
def yX12_set : MethodName := ⟨RX12, "set", "(II)I"⟩
abbrev cX12_append : ByteArray := prog_14_method_44_code
def yX12_append : MethodName := ⟨RX12, "append", "(I)I"⟩
abbrev cX12_erase : ByteArray := prog_14_method_45_code
def yX12_erase : MethodName := ⟨RX12, "erase", "()I"⟩
abbrev cX12_sign : ByteArray := prog_14_method_46_code
def yX12_sign : MethodName := ⟨RX12, "sign", "(I)I"⟩
abbrev cX12_digit : ByteArray := prog_14_method_47_code
def yX12_digit : MethodName := ⟨RX12, "digit", "(I)I"⟩
abbrev cX12_numberEnd : ByteArray := prog_14_method_48_code
def yX12_numberEnd : MethodName := ⟨RX12, "numberEnd", "(III)I"⟩
abbrev cX12_numberAt : ByteArray := prog_14_method_49_code
def yX12_numberAt : MethodName := ⟨RX12, "numberAt", "(I)I"⟩
abbrev cX12_behind : ByteArray := prog_14_method_50_code
def yX12_behind : MethodName := ⟨RX12, "behind", "(II)I"⟩
abbrev cX12_orderEnd : ByteArray := prog_14_method_51_code
def yX12_orderEnd : MethodName := ⟨RX12, "orderEnd", "(I)I"⟩
abbrev cX12_faultOf : ByteArray := prog_14_method_52_code
def yX12_faultOf : MethodName := ⟨RX12, "faultOf", "(I)I"⟩
abbrev cX12_fault : ByteArray := prog_14_method_53_code
def yX12_fault : MethodName := ⟨RX12, "fault", "(I)I"⟩
abbrev cX12_carries : ByteArray := prog_14_method_54_code
def yX12_carries : MethodName := ⟨RX12, "carries", "(I)I"⟩
abbrev cX12_goes : ByteArray := prog_14_method_55_code
def yX12_goes : MethodName := ⟨RX12, "goes", "(II)I"⟩
abbrev cX12_play : ByteArray := prog_14_method_56_code
def yX12_play : MethodName := ⟨RX12, "play", "()I"⟩
abbrev cX12_why : ByteArray := prog_14_method_57_code
def yX12_why : MethodName := ⟨RX12, "why", "(I)I"⟩
abbrev cX12_forces : ByteArray := prog_14_method_58_code
def yX12_forces : MethodName := ⟨RX12, "forces", "(III)I"⟩
abbrev cX12_layer : ByteArray := prog_14_method_59_code
def yX12_layer : MethodName := ⟨RX12, "layer", "(II)I"⟩
abbrev cX12_note : ByteArray := prog_14_method_60_code
def yX12_note : MethodName := ⟨RX12, "note", "(III)I"⟩
abbrev cX12_adds : ByteArray := prog_14_method_61_code
def yX12_adds : MethodName := ⟨RX12, "adds", "(III)I"⟩
abbrev cX12_ringOf : ByteArray := prog_14_method_62_code
def yX12_ringOf : MethodName := ⟨RX12, "ringOf", "(III)I"⟩
abbrev cX12_sumIn : ByteArray := prog_14_method_63_code
def yX12_sumIn : MethodName := ⟨RX12, "sumIn", "(II)I"⟩
abbrev cX12_isCell : ByteArray := prog_14_method_64_code
def yX12_isCell : MethodName := ⟨RX12, "isCell", "(I)Z"⟩
abbrev cX12_ring : ByteArray := prog_14_method_65_code
def yX12_ring : MethodName := ⟨RX12, "ring", "(II)I"⟩
abbrev cX12_keys : ByteArray := prog_14_method_66_code
def yX12_keys : MethodName := ⟨RX12, "keys", "(II)I"⟩
abbrev cX12_heard : ByteArray := prog_14_method_67_code
def yX12_heard : MethodName := ⟨RX12, "heard", "(II)I"⟩
abbrev cX12_loudest : ByteArray := prog_14_method_68_code
def yX12_loudest : MethodName := ⟨RX12, "loudest", "()I"⟩
abbrev cX12_buriedOf : ByteArray := prog_14_method_69_code
def yX12_buriedOf : MethodName := ⟨RX12, "buriedOf", "(I)I"⟩
abbrev cX12_buried : ByteArray := prog_14_method_70_code
def yX12_buried : MethodName := ⟨RX12, "buried", "()I"⟩
abbrev cX12_comesAt : ByteArray := prog_14_method_71_code
def yX12_comesAt : MethodName := ⟨RX12, "comesAt", "(I)Z"⟩
abbrev cX12_tunes : ByteArray := prog_14_method_72_code
def yX12_tunes : MethodName := ⟨RX12, "tunes", "()I"⟩
abbrev cX12_count : ByteArray := prog_14_method_73_code
def yX12_count : MethodName := ⟨RX12, "count", "(I)I"⟩
abbrev cX12_sumOf : ByteArray := prog_14_method_74_code
def yX12_sumOf : MethodName := ⟨RX12, "sumOf", "(I)I"⟩
abbrev cX12_loudness : ByteArray := prog_14_method_75_code
def yX12_loudness : MethodName := ⟨RX12, "loudness", "()D"⟩
abbrev cX12_barIn : ByteArray := prog_14_method_76_code
def yX12_barIn : MethodName := ⟨RX12, "barIn", "()I"⟩
abbrev cX12_drift : ByteArray := prog_14_method_77_code
def yX12_drift : MethodName := ⟨RX12, "drift", "(I)I"⟩
abbrev cX12_meets : ByteArray := prog_14_method_78_code
def yX12_meets : MethodName := ⟨RX12, "meets", "()I"⟩
abbrev cX12_rounded : ByteArray := prog_14_method_79_code
def yX12_rounded : MethodName := ⟨RX12, "rounded", "(I)I"⟩
abbrev cX12_greatest : ByteArray := prog_14_method_80_code
def yX12_greatest : MethodName := ⟨RX12, "greatest", "()I"⟩
abbrev cX12_silentIn : ByteArray := prog_14_method_81_code
def yX12_silentIn : MethodName := ⟨RX12, "silentIn", "()I"⟩
abbrev cX12_ifPeeled : ByteArray := prog_14_method_82_code
def yX12_ifPeeled : MethodName := ⟨RX12, "ifPeeled", "(II)I"⟩
abbrev cX12_undo : ByteArray := prog_14_method_83_code
def yX12_undo : MethodName := ⟨RX12, "undo", "()I"⟩
abbrev cX12_save : ByteArray := prog_14_method_84_code
def yX12_save : MethodName := ⟨RX12, "save", "()I"⟩
abbrev cX12_restore : ByteArray := prog_14_method_85_code
def yX12_restore : MethodName := ⟨RX12, "restore", "()I"⟩
def RL : String := "PedalLayersLaw"
abbrev cL_law : ByteArray := code
def yL_law : MethodName := ⟨RL, "law", "([I)Z"⟩
abbrev vwCl : List vw_C := [(RX0, TX0, 4), (RX1, TX1, 4), (RX2, TX2, 3), (RX3, TX3, 3), (RX4, TX4, 2), (RX5, TX5, 0), (RX6, TX6, 2), (RX7, TX7, 11), (RX9, TX9, 3), (RX10, TX10, 0), (RX11, TX11, 9), (RX12, TX12, 9)]
