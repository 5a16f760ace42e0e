/-- a private method of a class that the tables say can be made, by its rows of tables_1 -/
def lw_okq (q : MethodName × Nat) : Prop := (q.1.cls ≠ "java/lang/invoke/MethodHandle" ∧ q.1.cls ≠ "java/lang/invoke/VarHandle") ∧ Cond.instantiable q.1.cls q.2 ∈ tables_1 ∧ Cond.privateMethod q.1 ∈ tables_1 ∧ Cond.instanceMethod q.1 ∈ tables_1
theorem lw_p0 : lw_okq (⟨"PedalLayers$History", "stateAt", "(I)LPedalLayers$Pedal;"⟩, 3) := ⟨⟨by decide +kernel, by decide +kernel⟩, List.mem_of_getElem? (i := 135) (by decide +kernel), List.mem_of_getElem? (i := 255) (by decide +kernel), List.mem_of_getElem? (i := 256) (by decide +kernel)⟩
theorem lw_p1 : lw_okq (⟨"PedalLayers$Pedal", "layerAt", "(I)LPedalLayers$Layer;"⟩, 11) := ⟨⟨by decide +kernel, by decide +kernel⟩, List.mem_of_getElem? (i := 24) (by decide +kernel), List.mem_of_getElem? (i := 289) (by decide +kernel), List.mem_of_getElem? (i := 290) (by decide +kernel)⟩
theorem lw_p2 : lw_okq (⟨"PedalLayers$Pedal", "cellOfTake", "()I"⟩, 11) := ⟨⟨by decide +kernel, by decide +kernel⟩, List.mem_of_getElem? (i := 24) (by decide +kernel), List.mem_of_getElem? (i := 306) (by decide +kernel), List.mem_of_getElem? (i := 307) (by decide +kernel)⟩
theorem lw_p3 : lw_okq (⟨"PedalLayers", "settle", "(I)I"⟩, 9) := ⟨⟨by decide +kernel, by decide +kernel⟩, List.mem_of_getElem? (i := 16) (by decide +kernel), List.mem_of_getElem? (i := 334) (by decide +kernel), List.mem_of_getElem? (i := 335) (by decide +kernel)⟩
theorem lw_p4 : lw_okq (⟨"PedalLayers$Pedal", "moveLoop", "(I)I"⟩, 11) := ⟨⟨by decide +kernel, by decide +kernel⟩, List.mem_of_getElem? (i := 24) (by decide +kernel), List.mem_of_getElem? (i := 354) (by decide +kernel), List.mem_of_getElem? (i := 355) (by decide +kernel)⟩
theorem lw_p5 : lw_okq (⟨"PedalLayers$Pedal", "fadeLayers", "()V"⟩, 11) := ⟨⟨by decide +kernel, by decide +kernel⟩, List.mem_of_getElem? (i := 24) (by decide +kernel), List.mem_of_getElem? (i := 365) (by decide +kernel), List.mem_of_getElem? (i := 366) (by decide +kernel)⟩
theorem lw_p6 : lw_okq (⟨"PedalLayers$Pedal", "longestTake", "()I"⟩, 11) := ⟨⟨by decide +kernel, by decide +kernel⟩, List.mem_of_getElem? (i := 24) (by decide +kernel), List.mem_of_getElem? (i := 376) (by decide +kernel), List.mem_of_getElem? (i := 377) (by decide +kernel)⟩
theorem lw_p7 : lw_okq (⟨"PedalLayers$Pedal", "endTake", "()I"⟩, 11) := ⟨⟨by decide +kernel, by decide +kernel⟩, List.mem_of_getElem? (i := 24) (by decide +kernel), List.mem_of_getElem? (i := 380) (by decide +kernel), List.mem_of_getElem? (i := 381) (by decide +kernel)⟩
theorem lw_p8 : lw_okq (⟨"PedalLayers$Pedal", "lay", "(I)V"⟩, 11) := ⟨⟨by decide +kernel, by decide +kernel⟩, List.mem_of_getElem? (i := 24) (by decide +kernel), List.mem_of_getElem? (i := 392) (by decide +kernel), List.mem_of_getElem? (i := 393) (by decide +kernel)⟩
theorem lw_p9 : lw_okq (⟨"PedalLayers$Pedal", "startLoop", "()I"⟩, 11) := ⟨⟨by decide +kernel, by decide +kernel⟩, List.mem_of_getElem? (i := 24) (by decide +kernel), List.mem_of_getElem? (i := 397) (by decide +kernel), List.mem_of_getElem? (i := 398) (by decide +kernel)⟩
theorem lw_p10 : lw_okq (⟨"PedalLayers$Pedal", "beginFirstTake", "()I"⟩, 11) := ⟨⟨by decide +kernel, by decide +kernel⟩, List.mem_of_getElem? (i := 24) (by decide +kernel), List.mem_of_getElem? (i := 644) (by decide +kernel), List.mem_of_getElem? (i := 645) (by decide +kernel)⟩
theorem lw_p11 : lw_okq (⟨"PedalLayers$Pedal", "beginTakeOver", "()I"⟩, 11) := ⟨⟨by decide +kernel, by decide +kernel⟩, List.mem_of_getElem? (i := 24) (by decide +kernel), List.mem_of_getElem? (i := 656) (by decide +kernel), List.mem_of_getElem? (i := 657) (by decide +kernel)⟩
def lw_privs_1 : List (MethodName × Nat) := [(⟨"PedalLayers$History", "stateAt", "(I)LPedalLayers$Pedal;"⟩, 3), (⟨"PedalLayers$Pedal", "layerAt", "(I)LPedalLayers$Layer;"⟩, 11), (⟨"PedalLayers$Pedal", "cellOfTake", "()I"⟩, 11), (⟨"PedalLayers", "settle", "(I)I"⟩, 9), (⟨"PedalLayers$Pedal", "moveLoop", "(I)I"⟩, 11), (⟨"PedalLayers$Pedal", "fadeLayers", "()V"⟩, 11), (⟨"PedalLayers$Pedal", "longestTake", "()I"⟩, 11), (⟨"PedalLayers$Pedal", "endTake", "()I"⟩, 11), (⟨"PedalLayers$Pedal", "lay", "(I)V"⟩, 11), (⟨"PedalLayers$Pedal", "startLoop", "()I"⟩, 11), (⟨"PedalLayers$Pedal", "beginFirstTake", "()I"⟩, 11), (⟨"PedalLayers$Pedal", "beginTakeOver", "()I"⟩, 11)]
theorem lw_r1 : ∀ q ∈ lw_privs_1, lw_okq q := List.forall_mem_cons.mpr ⟨lw_p0, List.forall_mem_cons.mpr ⟨lw_p1, List.forall_mem_cons.mpr ⟨lw_p2, List.forall_mem_cons.mpr ⟨lw_p3, List.forall_mem_cons.mpr ⟨lw_p4, List.forall_mem_cons.mpr ⟨lw_p5, List.forall_mem_cons.mpr ⟨lw_p6, List.forall_mem_cons.mpr ⟨lw_p7, List.forall_mem_cons.mpr ⟨lw_p8, List.forall_mem_cons.mpr ⟨lw_p9, List.forall_mem_cons.mpr ⟨lw_p10, List.forall_mem_cons.mpr ⟨lw_p11, fun _ h => absurd h List.not_mem_nil⟩⟩⟩⟩⟩⟩⟩⟩⟩⟩⟩⟩
def lw_privs : List (MethodName × Nat) := lw_privs_1
def lw_tbl : List Cond := k2_sels lw_privs ++ tables_1
theorem lw_privs_ok : ∀ q ∈ lw_privs, lw_okq q := lw_r1
/-- the streams that the claim lets the run draw from -/
abbrev lw_cs : List Choice := [Jvm.Choice.named "NaN.bits"]
theorem lw_bits : nanBits ∈ lw_cs := by first | decide | exact List.mem_cons_self | simp [lw_cs, nanBits]
def R_law : String := "PedalLayersLaw"
def RX0 : String := "PedalLayers$Ear"
def TX0 : u_T := fun k => match k with
  | 0 => ("PedalLayers$Ear", "rings", "[I", true)
  | 1 => ("PedalLayers$Ear", "buriedNotes", "[I", true)
  | 2 => ("PedalLayers$Ear", "highestKeys", "[I", true)
  | _ => ("PedalLayers$Ear", "tuneKeys", "[I", true)
def tyX0 : Nat → FieldType := fun k => match k with
  | 0 => .array .int
  | 1 => .array .int
  | 2 => .array .int
  | _ => .array .int
abbrev wsX00 : List Cond := u_ws RX0 TX0 4
theorem nmX0 : ∀ a, a < 4 → ∀ b, b < 4 → a ≠ b → (TX0 a).2.1 ≠ (TX0 b).2.1 := by decide +kernel
theorem tyX0_ok : ∀ k, k < 4 → parseFieldDescriptor (TX0 k).2.2.1 = some (tyX0 k) := by decide +kernel
abbrev cX0_init : ByteArray := prog_2_method_1_code
def yX0_init : MethodName := ⟨RX0, "<init>", "()V"⟩
abbrev cX0_listen : ByteArray := prog_2_method_2_code
def yX0_listen : MethodName := ⟨RX0, "listen", "(LPedalLayers$Pedal;II)V"⟩
abbrev cX0_ringOf : ByteArray := prog_2_method_3_code
def yX0_ringOf : MethodName := ⟨RX0, "ringOf", "(I)I"⟩
abbrev cX0_howManyKeys : ByteArray := prog_2_method_4_code
def yX0_howManyKeys : MethodName := ⟨RX0, "howManyKeys", "()I"⟩
abbrev cX0_sum : ByteArray := prog_2_method_5_code
def yX0_sum : MethodName := ⟨RX0, "sum", "()I"⟩
abbrev cX0_highestKey : ByteArray := prog_2_method_6_code
def yX0_highestKey : MethodName := ⟨RX0, "highestKey", "()I"⟩
abbrev cX0_lowestKey : ByteArray := prog_2_method_7_code
def yX0_lowestKey : MethodName := ⟨RX0, "lowestKey", "()I"⟩
abbrev cX0_strongestKey : ByteArray := prog_2_method_8_code
def yX0_strongestKey : MethodName := ⟨RX0, "strongestKey", "()I"⟩
abbrev cX0_sumOfCells : ByteArray := prog_2_method_9_code
def yX0_sumOfCells : MethodName := ⟨RX0, "sumOfCells", "(LPedalLayers$Pedal;I)I"⟩
abbrev cX0_silentCells : ByteArray := prog_2_method_10_code
def yX0_silentCells : MethodName := ⟨RX0, "silentCells", "(LPedalLayers$Pedal;I)I"⟩
abbrev cX0_loudestCell : ByteArray := prog_2_method_11_code
def yX0_loudestCell : MethodName := ⟨RX0, "loudestCell", "(LPedalLayers$Pedal;)I"⟩
def RX1 : String := "PedalLayers$Halt"
def TX1 : u_T := fun k => match k with
  | 0 => ("PedalLayers$Halt", "known", "Z", false)
  | 1 => ("PedalLayers$Halt", "error", "I", false)
  | 2 => ("PedalLayers$Halt", "number", "I", false)
  | _ => ("PedalLayers$Halt", "position", "I", false)
def tyX1 : Nat → FieldType := fun k => match k with
  | 0 => .boolean
  | 1 => .int
  | 2 => .int
  | _ => .int
abbrev wsX10 : List Cond := u_ws RX1 TX1 4
theorem nmX1 : ∀ a, a < 4 → ∀ b, b < 4 → a ≠ b → (TX1 a).2.1 ≠ (TX1 b).2.1 := by decide +kernel
theorem tyX1_ok : ∀ k, k < 4 → parseFieldDescriptor (TX1 k).2.2.1 = some (tyX1 k) := by decide +kernel
abbrev cX1_init : ByteArray := prog_3_method_1_code
def yX1_init : MethodName := ⟨RX1, "<init>", "()V"⟩
def RX2 : String := "PedalLayers$History"
def TX2 : u_T := fun k => match k with
  | 0 => ("PedalLayers$History", "states", "[LPedalLayers$Pedal;", true)
  | 1 => ("PedalLayers$History", "oldest", "I", false)
  | _ => ("PedalLayers$History", "size", "I", false)
def tyX2 : Nat → FieldType := fun k => match k with
  | 0 => .array (.object "PedalLayers$Pedal")
  | 1 => .int
  | _ => .int
abbrev wsX20 : List Cond := u_ws RX2 TX2 3
theorem nmX2 : ∀ a, a < 3 → ∀ b, b < 3 → a ≠ b → (TX2 a).2.1 ≠ (TX2 b).2.1 := by decide +kernel
theorem tyX2_ok : ∀ k, k < 3 → parseFieldDescriptor (TX2 k).2.2.1 = some (tyX2 k) := by decide +kernel
abbrev cX2_init : ByteArray := prog_4_method_1_code
def yX2_init : MethodName := ⟨RX2, "<init>", "()V"⟩
abbrev cX2_size : ByteArray := prog_4_method_2_code
def yX2_size : MethodName := ⟨RX2, "size", "()I"⟩
abbrev cX2_stateAt : ByteArray := prog_4_method_3_code
def yX2_stateAt : MethodName := ⟨RX2, "stateAt", "(I)LPedalLayers$Pedal;"⟩
abbrev cX2_prepare : ByteArray := prog_4_method_4_code
def yX2_prepare : MethodName := ⟨RX2, "prepare", "(LPedalLayers$Pedal;)V"⟩
abbrev cX2_keep : ByteArray := prog_4_method_5_code
def yX2_keep : MethodName := ⟨RX2, "keep", "()V"⟩
abbrev cX2_takeLatest : ByteArray := prog_4_method_6_code
def yX2_takeLatest : MethodName := ⟨RX2, "takeLatest", "()LPedalLayers$Pedal;"⟩
def RX3 : String := "PedalLayers$Layer"
def TX3 : u_T := fun k => match k with
  | 0 => ("PedalLayers$Layer", "notes", "LPedalLayers$Notes;", true)
  | 1 => ("PedalLayers$Layer", "muted", "Z", false)
  | _ => ("PedalLayers$Layer", "passes", "I", false)
def tyX3 : Nat → FieldType := fun k => match k with
  | 0 => .object "PedalLayers$Notes"
  | 1 => .boolean
  | _ => .int
abbrev wsX30 : List Cond := u_ws RX3 TX3 3
theorem nmX3 : ∀ a, a < 3 → ∀ b, b < 3 → a ≠ b → (TX3 a).2.1 ≠ (TX3 b).2.1 := by decide +kernel
theorem tyX3_ok : ∀ k, k < 3 → parseFieldDescriptor (TX3 k).2.2.1 = some (tyX3 k) := by decide +kernel
abbrev cX3_init : ByteArray := prog_5_method_1_code
def yX3_init : MethodName := ⟨RX3, "<init>", "()V"⟩
abbrev cX3_copyFrom : ByteArray := prog_5_method_2_code
def yX3_copyFrom : MethodName := ⟨RX3, "copyFrom", "(LPedalLayers$Layer;)V"⟩
def RX4 : String := "PedalLayers$Notes"
def TX4 : u_T := fun k => match k with
  | 0 => ("PedalLayers$Notes", "forces", "[I", true)
  | _ => ("PedalLayers$Notes", "cells", "I", false)
def tyX4 : Nat → FieldType := fun k => match k with
  | 0 => .array .int
  | _ => .int
abbrev wsX40 : List Cond := u_ws RX4 TX4 2
theorem nmX4 : ∀ a, a < 2 → ∀ b, b < 2 → a ≠ b → (TX4 a).2.1 ≠ (TX4 b).2.1 := by decide +kernel
theorem tyX4_ok : ∀ k, k < 2 → parseFieldDescriptor (TX4 k).2.2.1 = some (tyX4 k) := by decide +kernel
abbrev cX4_init : ByteArray := prog_6_method_1_code
def yX4_init : MethodName := ⟨RX4, "<init>", "()V"⟩
abbrev cX4_cells : ByteArray := prog_6_method_2_code
def yX4_cells : MethodName := ⟨RX4, "cells", "()I"⟩
abbrev cX4_at : ByteArray := prog_6_method_3_code
def yX4_at : MethodName := ⟨RX4, "at", "(II)I"⟩
abbrev cX4_add : ByteArray := prog_6_method_4_code
def yX4_add : MethodName := ⟨RX4, "add", "(III)I"⟩
abbrev cX4_clear : ByteArray := prog_6_method_5_code
def yX4_clear : MethodName := ⟨RX4, "clear", "(I)V"⟩
abbrev cX4_copyFrom : ByteArray := prog_6_method_6_code
def yX4_copyFrom : MethodName := ⟨RX4, "copyFrom", "(LPedalLayers$Notes;I)V"⟩
abbrev cX4_fold : ByteArray := prog_6_method_7_code
def yX4_fold : MethodName := ⟨RX4, "fold", "(I)V"⟩
abbrev cX4_fade : ByteArray := prog_6_method_8_code
def yX4_fade : MethodName := ⟨RX4, "fade", "(I)V"⟩
abbrev cX4_howMany : ByteArray := prog_6_method_9_code
def yX4_howMany : MethodName := ⟨RX4, "howMany", "()I"⟩
abbrev cX4_sum : ByteArray := prog_6_method_10_code
def yX4_sum : MethodName := ⟨RX4, "sum", "()I"⟩
abbrev cX4_greatestFrom : ByteArray := prog_6_method_11_code
def yX4_greatestFrom : MethodName := ⟨RX4, "greatestFrom", "(I)I"⟩
def RX5 : String := "PedalLayers$OrderReading"
def TX5 : u_T := fun k => match k with
  | _ => ("", "", "", false)
def tyX5 : Nat → FieldType := fun k => match k with
  | _ => .int
abbrev wsX50 : List Cond := u_ws RX5 TX5 0
theorem nmX5 : ∀ a, a < 0 → ∀ b, b < 0 → a ≠ b → (TX5 a).2.1 ≠ (TX5 b).2.1 := by decide +kernel
theorem tyX5_ok : ∀ k, k < 0 → parseFieldDescriptor (TX5 k).2.2.1 = some (tyX5 k) := by decide +kernel
abbrev cX5_init : ByteArray := prog_7_method_1_code
def yX5_init : MethodName := ⟨RX5, "<init>", "()V"⟩
def RX6 : String := "PedalLayers$Pad"
def TX6 : u_T := fun k => match k with
  | 0 => ("PedalLayers$Pad", "signs", "[C", true)
  | _ => ("PedalLayers$Pad", "length", "I", false)
def tyX6 : Nat → FieldType := fun k => match k with
  | 0 => .array .char
  | _ => .int
abbrev wsX60 : List Cond := u_ws RX6 TX6 2
theorem nmX6 : ∀ a, a < 2 → ∀ b, b < 2 → a ≠ b → (TX6 a).2.1 ≠ (TX6 b).2.1 := by decide +kernel
theorem tyX6_ok : ∀ k, k < 2 → parseFieldDescriptor (TX6 k).2.2.1 = some (tyX6 k) := by decide +kernel
abbrev cX6_init : ByteArray := prog_8_method_1_code
def yX6_init : MethodName := ⟨RX6, "<init>", "()V"⟩
abbrev cX6_size : ByteArray := prog_8_method_2_code
def yX6_size : MethodName := ⟨RX6, "size", "()I"⟩
def RX7 : String := "PedalLayers$Pedal"
def TX7 : u_T := fun k => match k with
  | 0 => ("PedalLayers$Pedal", "settings", "[I", true)
  | 1 => ("PedalLayers$Pedal", "layers", "[LPedalLayers$Layer;", true)
  | 2 => ("PedalLayers$Pedal", "take", "LPedalLayers$Take;", true)
  | 3 => ("PedalLayers$Pedal", "half", "Z", false)
  | 4 => ("PedalLayers$Pedal", "mode", "I", false)
  | 5 => ("PedalLayers$Pedal", "onLoop", "I", false)
  | 6 => ("PedalLayers$Pedal", "inDrawer", "I", false)
  | 7 => ("PedalLayers$Pedal", "place", "I", false)
  | 8 => ("PedalLayers$Pedal", "passes", "I", false)
  | 9 => ("PedalLayers$Pedal", "played", "I", false)
  | _ => ("PedalLayers$Pedal", "laid", "I", false)
def tyX7 : Nat → FieldType := fun k => match k with
  | 0 => .array .int
  | 1 => .array (.object "PedalLayers$Layer")
  | 2 => .object "PedalLayers$Take"
  | 3 => .boolean
  | 4 => .int
  | 5 => .int
  | 6 => .int
  | 7 => .int
  | 8 => .int
  | 9 => .int
  | _ => .int
abbrev wsX70 : List Cond := u_ws RX7 TX7 11
theorem nmX7 : ∀ a, a < 11 → ∀ b, b < 11 → a ≠ b → (TX7 a).2.1 ≠ (TX7 b).2.1 := by decide +kernel
theorem tyX7_ok : ∀ k, k < 11 → parseFieldDescriptor (TX7 k).2.2.1 = some (tyX7 k) := by decide +kernel
abbrev cX7_init : ByteArray := prog_9_method_1_code
def yX7_init : MethodName := ⟨RX7, "<init>", "()V"⟩
abbrev cX7_copyFrom : ByteArray := prog_9_method_2_code
def yX7_copyFrom : MethodName := ⟨RX7, "copyFrom", "(LPedalLayers$Pedal;)V"⟩
abbrev cX7_copyLayer : ByteArray := prog_9_method_3_code
def yX7_copyLayer : MethodName := ⟨RX7, "copyLayer", "(LPedalLayers$Layer;LPedalLayers$Layer;)V"⟩
abbrev cX7_layerAt : ByteArray := prog_9_method_4_code
def yX7_layerAt : MethodName := ⟨RX7, "layerAt", "(I)LPedalLayers$Layer;"⟩
abbrev cX7_layerOnLoop : ByteArray := prog_9_method_5_code
def yX7_layerOnLoop : MethodName := ⟨RX7, "layerOnLoop", "(I)LPedalLayers$Layer;"⟩
abbrev cX7_setting : ByteArray := prog_9_method_6_code
def yX7_setting : MethodName := ⟨RX7, "setting", "(I)I"⟩
abbrev cX7_takeRuns : ByteArray := prog_9_method_7_code
def yX7_takeRuns : MethodName := ⟨RX7, "takeRuns", "()Z"⟩
abbrev cX7_loopPlays : ByteArray := prog_9_method_8_code
def yX7_loopPlays : MethodName := ⟨RX7, "loopPlays", "()Z"⟩
abbrev cX7_loopLength : ByteArray := prog_9_method_9_code
def yX7_loopLength : MethodName := ⟨RX7, "loopLength", "(I)I"⟩
abbrev cX7_firstLength : ByteArray := prog_9_method_10_code
def yX7_firstLength : MethodName := ⟨RX7, "firstLength", "()I"⟩
abbrev cX7_isCell : ByteArray := prog_9_method_11_code
def yX7_isCell : MethodName := ⟨RX7, "isCell", "(I)Z"⟩
abbrev cX7_lowestHeardKey : ByteArray := prog_9_method_12_code
def yX7_lowestHeardKey : MethodName := ⟨RX7, "lowestHeardKey", "()I"⟩
abbrev cX7_soundingLayer : ByteArray := prog_9_method_13_code
def yX7_soundingLayer : MethodName := ⟨RX7, "soundingLayer", "(I)LPedalLayers$Layer;"⟩
abbrev cX7_greatestHeardForce : ByteArray := prog_9_method_14_code
def yX7_greatestHeardForce : MethodName := ⟨RX7, "greatestHeardForce", "()I"⟩
abbrev cX7_wholeBars : ByteArray := prog_9_method_15_code
def yX7_wholeBars : MethodName := ⟨RX7, "wholeBars", "(I)I"⟩
abbrev cX7_pressPedal : ByteArray := prog_9_method_16_code
def yX7_pressPedal : MethodName := ⟨RX7, "pressPedal", "()I"⟩
abbrev cX7_beginFirstTake : ByteArray := prog_9_method_17_code
def yX7_beginFirstTake : MethodName := ⟨RX7, "beginFirstTake", "()I"⟩
abbrev cX7_beginTakeOver : ByteArray := prog_9_method_18_code
def yX7_beginTakeOver : MethodName := ⟨RX7, "beginTakeOver", "()I"⟩
abbrev cX7_startLoop : ByteArray := prog_9_method_19_code
def yX7_startLoop : MethodName := ⟨RX7, "startLoop", "()I"⟩
abbrev cX7_endTake : ByteArray := prog_9_method_20_code
def yX7_endTake : MethodName := ⟨RX7, "endTake", "()I"⟩
abbrev cX7_lay : ByteArray := prog_9_method_21_code
def yX7_lay : MethodName := ⟨RX7, "lay", "(I)V"⟩
abbrev cX7_stopPedal : ByteArray := prog_9_method_22_code
def yX7_stopPedal : MethodName := ⟨RX7, "stopPedal", "()I"⟩
abbrev cX7_throwAllAway : ByteArray := prog_9_method_23_code
def yX7_throwAllAway : MethodName := ⟨RX7, "throwAllAway", "()I"⟩
abbrev cX7_hitNote : ByteArray := prog_9_method_24_code
def yX7_hitNote : MethodName := ⟨RX7, "hitNote", "(II)I"⟩
abbrev cX7_cellOfTake : ByteArray := prog_9_method_25_code
def yX7_cellOfTake : MethodName := ⟨RX7, "cellOfTake", "()I"⟩
abbrev cX7_runTicks : ByteArray := prog_9_method_26_code
def yX7_runTicks : MethodName := ⟨RX7, "runTicks", "(I)I"⟩
abbrev cX7_longestTake : ByteArray := prog_9_method_27_code
def yX7_longestTake : MethodName := ⟨RX7, "longestTake", "()I"⟩
abbrev cX7_moveLoop : ByteArray := prog_9_method_28_code
def yX7_moveLoop : MethodName := ⟨RX7, "moveLoop", "(I)I"⟩
abbrev cX7_fadeLayers : ByteArray := prog_9_method_29_code
def yX7_fadeLayers : MethodName := ⟨RX7, "fadeLayers", "()V"⟩
abbrev cX7_peelOff : ByteArray := prog_9_method_30_code
def yX7_peelOff : MethodName := ⟨RX7, "peelOff", "()I"⟩
abbrev cX7_putBack : ByteArray := prog_9_method_31_code
def yX7_putBack : MethodName := ⟨RX7, "putBack", "()I"⟩
abbrev cX7_switchMute : ByteArray := prog_9_method_32_code
def yX7_switchMute : MethodName := ⟨RX7, "switchMute", "(I)I"⟩
abbrev cX7_switchSpeed : ByteArray := prog_9_method_33_code
def yX7_switchSpeed : MethodName := ⟨RX7, "switchSpeed", "()I"⟩
abbrev cX7_changeSetting : ByteArray := prog_9_method_34_code
def yX7_changeSetting : MethodName := ⟨RX7, "changeSetting", "(II)I"⟩
def RX8 : String := "PedalLayers$Reading"
def TX8 : u_T := fun k => match k with
  | _ => ("", "", "", false)
def tyX8 : Nat → FieldType := fun k => match k with
  | _ => .int
abbrev wsX80 : List Cond := u_ws RX8 TX8 0
theorem nmX8 : ∀ a, a < 0 → ∀ b, b < 0 → a ≠ b → (TX8 a).2.1 ≠ (TX8 b).2.1 := by decide +kernel
theorem tyX8_ok : ∀ k, k < 0 → parseFieldDescriptor (TX8 k).2.2.1 = some (tyX8 k) := by decide +kernel
abbrev cX8_init : ByteArray := prog_10_method_1_code
def yX8_init : MethodName := ⟨RX8, "<init>", "()V"⟩
def RX9 : String := "PedalLayers$Take"
def TX9 : u_T := fun k => match k with
  | 0 => ("PedalLayers$Take", "notes", "LPedalLayers$Notes;", true)
  | 1 => ("PedalLayers$Take", "halves", "I", false)
  | _ => ("PedalLayers$Take", "start", "I", false)
def tyX9 : Nat → FieldType := fun k => match k with
  | 0 => .object "PedalLayers$Notes"
  | 1 => .int
  | _ => .int
abbrev wsX90 : List Cond := u_ws RX9 TX9 3
theorem nmX9 : ∀ a, a < 3 → ∀ b, b < 3 → a ≠ b → (TX9 a).2.1 ≠ (TX9 b).2.1 := by decide +kernel
theorem tyX9_ok : ∀ k, k < 3 → parseFieldDescriptor (TX9 k).2.2.1 = some (tyX9 k) := by decide +kernel
abbrev cX9_init : ByteArray := prog_11_method_1_code
def yX9_init : MethodName := ⟨RX9, "<init>", "()V"⟩
abbrev cX9_begin : ByteArray := prog_11_method_2_code
def yX9_begin : MethodName := ⟨RX9, "begin", "(II)V"⟩
abbrev cX9_copyFrom : ByteArray := prog_11_method_3_code
def yX9_copyFrom : MethodName := ⟨RX9, "copyFrom", "(LPedalLayers$Take;)V"⟩
def RX10 : String := "PedalLayers$TuneReading"
def TX10 : u_T := fun k => match k with
  | _ => ("", "", "", false)
def tyX10 : Nat → FieldType := fun k => match k with
  | _ => .int
abbrev wsX100 : List Cond := u_ws RX10 TX10 0
theorem nmX10 : ∀ a, a < 0 → ∀ b, b < 0 → a ≠ b → (TX10 a).2.1 ≠ (TX10 b).2.1 := by decide +kernel
theorem tyX10_ok : ∀ k, k < 0 → parseFieldDescriptor (TX10 k).2.2.1 = some (tyX10 k) := by decide +kernel
abbrev cX10_init : ByteArray := prog_12_method_1_code
def yX10_init : MethodName := ⟨RX10, "<init>", "()V"⟩
def RX11 : String := "PedalLayers"
def TX11 : u_T := fun k => match k with
  | 0 => ("PedalLayers", "now", "LPedalLayers$Pedal;", true)
  | 1 => ("PedalLayers", "snapshot", "LPedalLayers$Pedal;", true)
  | 2 => ("PedalLayers", "history", "LPedalLayers$History;", true)
  | 3 => ("PedalLayers", "pad", "LPedalLayers$Pad;", true)
  | 4 => ("PedalLayers", "orders", "LPedalLayers$OrderReading;", true)
  | 5 => ("PedalLayers", "tune", "LPedalLayers$TuneReading;", true)
  | 6 => ("PedalLayers", "halt", "LPedalLayers$Halt;", true)
  | 7 => ("PedalLayers", "ear", "LPedalLayers$Ear;", true)
  | _ => ("PedalLayers", "snapshotTaken", "Z", false)
def tyX11 : Nat → FieldType := fun k => match k with
  | 0 => .object "PedalLayers$Pedal"
  | 1 => .object "PedalLayers$Pedal"
  | 2 => .object "PedalLayers$History"
  | 3 => .object "PedalLayers$Pad"
  | 4 => .object "PedalLayers$OrderReading"
  | 5 => .object "PedalLayers$TuneReading"
  | 6 => .object "PedalLayers$Halt"
  | 7 => .object "PedalLayers$Ear"
  | _ => .boolean
abbrev wsX110 : List Cond := u_ws RX11 TX11 9
theorem nmX11 : ∀ a, a < 9 → ∀ b, b < 9 → a ≠ b → (TX11 a).2.1 ≠ (TX11 b).2.1 := by decide +kernel
theorem tyX11_ok : ∀ k, k < 9 → parseFieldDescriptor (TX11 k).2.2.1 = some (tyX11 k) := by decide +kernel
abbrev cX11_init : ByteArray := prog_1_method_1_code
def yX11_init : MethodName := ⟨RX11, "<init>", "()V"⟩
abbrev cX11_press : ByteArray := prog_1_method_2_code
def yX11_press : MethodName := ⟨RX11, "press", "()I"⟩
abbrev cX11_stop : ByteArray := prog_1_method_3_code
def yX11_stop : MethodName := ⟨RX11, "stop", "()I"⟩
abbrev cX11_empty : ByteArray := prog_1_method_4_code
def yX11_empty : MethodName := ⟨RX11, "empty", "()I"⟩
abbrev cX11_hit : ByteArray := prog_1_method_5_code
def yX11_hit : MethodName := ⟨RX11, "hit", "(II)I"⟩
abbrev cX11_pass : ByteArray := prog_1_method_6_code
def yX11_pass : MethodName := ⟨RX11, "pass", "(I)I"⟩
abbrev cX11_peel : ByteArray := prog_1_method_7_code
def yX11_peel : MethodName := ⟨RX11, "peel", "()I"⟩
abbrev cX11_back : ByteArray := prog_1_method_8_code
def yX11_back : MethodName := ⟨RX11, "back", "()I"⟩
abbrev cX11_mute : ByteArray := prog_1_method_9_code
def yX11_mute : MethodName := ⟨RX11, "mute", "(I)I"⟩
abbrev cX11_speed : ByteArray := prog_1_method_10_code
def yX11_speed : MethodName := ⟨RX11, "speed", "()I"⟩
abbrev cX11_set : ByteArray := prog_1_method_11_code
def yX11_set : MethodName := ⟨RX11, "set", "(II)I"⟩
abbrev cX11_layer : ByteArray := prog_1_method_17_code
def yX11_layer : MethodName := ⟨RX11, "layer", "(II)I"⟩
abbrev cX11_note : ByteArray := prog_1_method_18_code
def yX11_note : MethodName := ⟨RX11, "note", "(III)I"⟩
abbrev cX11_ring : ByteArray := prog_1_method_19_code
def yX11_ring : MethodName := ⟨RX11, "ring", "(II)I"⟩
abbrev cX11_heard : ByteArray := prog_1_method_20_code
def yX11_heard : MethodName := ⟨RX11, "heard", "(II)I"⟩
abbrev cX11_loudest : ByteArray := prog_1_method_21_code
def yX11_loudest : MethodName := ⟨RX11, "loudest", "()I"⟩
abbrev cX11_count : ByteArray := prog_1_method_24_code
def yX11_count : MethodName := ⟨RX11, "count", "(I)I"⟩
abbrev cX11_loudness : ByteArray := prog_1_method_25_code
def yX11_loudness : MethodName := ⟨RX11, "loudness", "()D"⟩
abbrev cX11_barIn : ByteArray := prog_1_method_26_code
def yX11_barIn : MethodName := ⟨RX11, "barIn", "()I"⟩
abbrev cX11_drift : ByteArray := prog_1_method_27_code
def yX11_drift : MethodName := ⟨RX11, "drift", "(I)I"⟩
abbrev cX11_meets : ByteArray := prog_1_method_28_code
def yX11_meets : MethodName := ⟨RX11, "meets", "()I"⟩
abbrev cX11_rounded : ByteArray := prog_1_method_29_code
def yX11_rounded : MethodName := ⟨RX11, "rounded", "(I)I"⟩
abbrev cX11_silentIn : ByteArray := prog_1_method_30_code
def yX11_silentIn : MethodName := ⟨RX11, "silentIn", "()I"⟩
abbrev cX11_ifPeeled : ByteArray := prog_1_method_31_code
def yX11_ifPeeled : MethodName := ⟨RX11, "ifPeeled", "(II)I"⟩
abbrev cX11_undo : ByteArray := prog_1_method_32_code
def yX11_undo : MethodName := ⟨RX11, "undo", "()I"⟩
abbrev cX11_save : ByteArray := prog_1_method_33_code
def yX11_save : MethodName := ⟨RX11, "save", "()I"⟩
abbrev cX11_restore : ByteArray := prog_1_method_34_code
def yX11_restore : MethodName := ⟨RX11, "restore", "()I"⟩
abbrev cX11_settle : ByteArray := prog_1_method_35_code
def yX11_settle : MethodName := ⟨RX11, "settle", "(I)I"⟩
abbrev cX11_isKey : ByteArray := prog_1_method_37_code
def yX11_isKey : MethodName := ⟨RX11, "isKey", "(I)Z"⟩
abbrev cX11_isValueOf : ByteArray := prog_1_method_38_code
def yX11_isValueOf : MethodName := ⟨RX11, "isValueOf", "(II)Z"⟩
abbrev cX11_rest : ByteArray := prog_1_method_39_code
def yX11_rest : MethodName := ⟨RX11, "rest", "(II)I"⟩
abbrev cX11_untilMultiple : ByteArray := prog_1_method_40_code
def yX11_untilMultiple : MethodName := ⟨RX11, "untilMultiple", "(II)I"⟩
abbrev cX11_faded : ByteArray := prog_1_method_41_code
def yX11_faded : MethodName := ⟨RX11, "faded", "(II)I"⟩
def RX12 : String := "PedalLayersModel"
def TX12 : u_T := fun k => match k with
  | _ => ("", "", "", false)
def tyX12 : Nat → FieldType := fun k => match k with
  | _ => .int
abbrev wsX120 : List Cond := u_ws RX12 TX12 0
theorem nmX12 : ∀ a, a < 0 → ∀ b, b < 0 → a ≠ b → (TX12 a).2.1 ≠ (TX12 b).2.1 := by decide +kernel
theorem tyX12_ok : ∀ k, k < 0 → parseFieldDescriptor (TX12 k).2.2.1 = some (tyX12 k) := by decide +kernel
def RL : String := "PedalLayersLaw"
abbrev cL_cell : ByteArray := method_2_code
def yL_cell : MethodName := ⟨RL, "cell", "([II)I"⟩
abbrev cL_low : ByteArray := method_3_code
def yL_low : MethodName := ⟨RL, "low", "(II)I"⟩
abbrev cL_isLayer : ByteArray := method_4_code
def yL_isLayer : MethodName := ⟨RL, "isLayer", "(LPedalLayers;I)Z"⟩
abbrev cL_isCell : ByteArray := method_5_code
def yL_isCell : MethodName := ⟨RL, "isCell", "(LPedalLayers;I)Z"⟩
abbrev cL_isLoop : ByteArray := method_6_code
def yL_isLoop : MethodName := ⟨RL, "isLoop", "(LPedalLayers;)Z"⟩
abbrev cL_areBars : ByteArray := method_7_code
def yL_areBars : MethodName := ⟨RL, "areBars", "(LPedalLayers;I)Z"⟩
abbrev cL_comesBack : ByteArray := method_8_code
def yL_comesBack : MethodName := ⟨RL, "comesBack", "(LPedalLayers;)Z"⟩
abbrev cL_fadesSo : ByteArray := method_9_code
def yL_fadesSo : MethodName := ⟨RL, "fadesSo", "(LPedalLayers;)Z"⟩
abbrev cL_does : ByteArray := method_10_code
def yL_does : MethodName := ⟨RL, "does", "(LPedalLayers;I)Z"⟩
abbrev cL_law : ByteArray := code
def yL_law : MethodName := ⟨RL, "law", "([I)Z"⟩
abbrev vwCl : List vw_C := [(RX0, TX0, 4), (RX1, TX1, 4), (RX2, TX2, 3), (RX3, TX3, 3), (RX4, TX4, 2), (RX5, TX5, 0), (RX6, TX6, 2), (RX7, TX7, 11), (RX9, TX9, 3), (RX10, TX10, 0), (RX11, TX11, 9)]
