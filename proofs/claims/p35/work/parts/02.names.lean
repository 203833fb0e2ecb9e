/-! ===== BEGIN printed: names, fields, word lists, decode rows ===== -/
def RX0 : String := "HeaderSqueezer$Link"
def TX0 : u_T := fun k => match k with
  | 0 => ("HeaderSqueezer$Link", "items", "[I", true)
  | _ => ("HeaderSqueezer$Link", "length", "I", false)
def tyX0 : Nat → FieldType := fun k => match k with
  | 0 => .array .int
  | _ => .int
abbrev wsX00 : List Cond := u_ws RX0 TX0 2
theorem nmX0 : ∀ a, a < 2 → ∀ b, b < 2 → a ≠ b → (TX0 a).2.1 ≠ (TX0 b).2.1 := by decide +kernel
theorem tyX0_ok : ∀ k, k < 2 → parseFieldDescriptor (TX0 k).2.2.1 = some (tyX0 k) := by decide +kernel
abbrev cX0_init : ByteArray := prog_2_method_1_code
def yX0_init : MethodName := ⟨RX0, "<init>", "()V"⟩
abbrev cX0_copyFrom : ByteArray := prog_2_method_2_code
def yX0_copyFrom : MethodName := ⟨RX0, "copyFrom", "(LHeaderSqueezer$Link;)V"⟩
abbrev cX0_has : ByteArray := prog_2_method_3_code
def yX0_has : MethodName := ⟨RX0, "has", "(I)Z"⟩
abbrev cX0_isFull : ByteArray := prog_2_method_4_code
def yX0_isFull : MethodName := ⟨RX0, "isFull", "()Z"⟩
abbrev cX0_put : ByteArray := prog_2_method_5_code
def yX0_put : MethodName := ⟨RX0, "put", "(I)V"⟩
abbrev cX0_takeOut : ByteArray := prog_2_method_6_code
def yX0_takeOut : MethodName := ⟨RX0, "takeOut", "(I)I"⟩
def RX1 : String := "HeaderSqueezer$PacketLog"
def TX1 : u_T := fun k => match k with
  | 0 => ("HeaderSqueezer$PacketLog", "records", "[[I", true)
  | 1 => ("HeaderSqueezer$PacketLog", "carried", "[[I", true)
  | 2 => ("HeaderSqueezer$PacketLog", "forms", "[I", true)
  | 3 => ("HeaderSqueezer$PacketLog", "references", "[I", true)
  | _ => ("HeaderSqueezer$PacketLog", "sizes", "[I", true)
def tyX1 : Nat → FieldType := fun k => match k with
  | 0 => .array (.array .int)
  | 1 => .array (.array .int)
  | 2 => .array .int
  | 3 => .array .int
  | _ => .array .int
abbrev wsX10 : List Cond := u_ws RX1 TX1 5
theorem nmX1 : ∀ a, a < 5 → ∀ b, b < 5 → a ≠ b → (TX1 a).2.1 ≠ (TX1 b).2.1 := by decide +kernel
theorem tyX1_ok : ∀ k, k < 5 → parseFieldDescriptor (TX1 k).2.2.1 = some (tyX1 k) := by decide +kernel
abbrev cX1_init : ByteArray := prog_3_method_1_code
def yX1_init : MethodName := ⟨RX1, "<init>", "()V"⟩
def RX2 : String := "HeaderSqueezer$Receiver"
def TX2 : u_T := fun k => match k with
  | 0 => ("HeaderSqueezer$Receiver", "log", "LHeaderSqueezer$PacketLog;", true)
  | 1 => ("HeaderSqueezer$Receiver", "depth", "I", false)
  | 2 => ("HeaderSqueezer$Receiver", "interval", "I", false)
  | 3 => ("HeaderSqueezer$Receiver", "patience", "I", false)
  | 4 => ("HeaderSqueezer$Receiver", "highest", "I", false)
  | 5 => ("HeaderSqueezer$Receiver", "unknownInRow", "I", false)
  | 6 => ("HeaderSqueezer$Receiver", "requests", "I", false)
  | 7 => ("HeaderSqueezer$Receiver", "lateness", "I", false)
  | 8 => ("HeaderSqueezer$Receiver", "outcomes", "[I", true)
  | 9 => ("HeaderSqueezer$Receiver", "window", "LHeaderSqueezer$Window;", true)
  | _ => ("HeaderSqueezer$Receiver", "decoded", "[I", true)
def tyX2 : Nat → FieldType := fun k => match k with
  | 0 => .object "HeaderSqueezer$PacketLog"
  | 1 => .int
  | 2 => .int
  | 3 => .int
  | 4 => .int
  | 5 => .int
  | 6 => .int
  | 7 => .int
  | 8 => .array .int
  | 9 => .object "HeaderSqueezer$Window"
  | _ => .array .int
abbrev wsX20 : List Cond := u_ws RX2 TX2 11
theorem nmX2 : ∀ a, a < 11 → ∀ b, b < 11 → a ≠ b → (TX2 a).2.1 ≠ (TX2 b).2.1 := by decide +kernel
theorem tyX2_ok : ∀ k, k < 11 → parseFieldDescriptor (TX2 k).2.2.1 = some (tyX2 k) := by decide +kernel
abbrev cX2_init : ByteArray := prog_4_method_1_code
def yX2_init : MethodName := ⟨RX2, "<init>", "(LHeaderSqueezer$PacketLog;)V"⟩
abbrev cX2_copyFrom : ByteArray := prog_4_method_2_code
def yX2_copyFrom : MethodName := ⟨RX2, "copyFrom", "(LHeaderSqueezer$Receiver;)V"⟩
abbrev cX2_numberOf : ByteArray := prog_4_method_3_code
def yX2_numberOf : MethodName := ⟨RX2, "numberOf", "(I)I"⟩
abbrev cX2_decodedPackets : ByteArray := prog_4_method_4_code
def yX2_decodedPackets : MethodName := ⟨RX2, "decodedPackets", "()I"⟩
abbrev cX2_receive : ByteArray := prog_4_method_5_code
def yX2_receive : MethodName := ⟨RX2, "receive", "(ILHeaderSqueezer$Link;)I"⟩
abbrev cX2_isRight : ByteArray := prog_4_method_6_code
def yX2_isRight : MethodName := ⟨RX2, "isRight", "(II)Z"⟩
abbrev cX2_decode : ByteArray := prog_4_method_7_code
def yX2_decode : MethodName := ⟨RX2, "decode", "(II)Z"⟩
abbrev cX2_keepDecoded : ByteArray := prog_4_method_8_code
def yX2_keepDecoded : MethodName := ⟨RX2, "keepDecoded", "(ILHeaderSqueezer$Link;)V"⟩
abbrev cX2_missReference : ByteArray := prog_4_method_9_code
def yX2_missReference : MethodName := ⟨RX2, "missReference", "(LHeaderSqueezer$Link;)V"⟩
def RX3 : String := "HeaderSqueezer$Rows"
def TX3 : u_T := fun k => match k with
  | _ => ("", "", "", false)
def tyX3 : Nat → FieldType := fun k => match k with
  | _ => .int
abbrev wsX30 : List Cond := u_ws RX3 TX3 0
theorem nmX3 : ∀ a, a < 0 → ∀ b, b < 0 → a ≠ b → (TX3 a).2.1 ≠ (TX3 b).2.1 := by decide +kernel
theorem tyX3_ok : ∀ k, k < 0 → parseFieldDescriptor (TX3 k).2.2.1 = some (tyX3 k) := by decide +kernel
abbrev cX3_wrapped : ByteArray := prog_5_method_2_code
def yX3_wrapped : MethodName := ⟨RX3, "wrapped", "(I)I"⟩
abbrev cX3_difference : ByteArray := prog_5_method_3_code
def yX3_difference : MethodName := ⟨RX3, "difference", "(II)I"⟩
abbrev cX3_copyRow : ByteArray := prog_5_method_4_code
def yX3_copyRow : MethodName := ⟨RX3, "copyRow", "([I[I)V"⟩
abbrev cX3_putBase : ByteArray := prog_5_method_5_code
def yX3_putBase : MethodName := ⟨RX3, "putBase", "([I[III)V"⟩
abbrev cX3_putCarried : ByteArray := prog_5_method_6_code
def yX3_putCarried : MethodName := ⟨RX3, "putCarried", "([I[I[I)V"⟩
abbrev cX3_addCarried : ByteArray := prog_5_method_7_code
def yX3_addCarried : MethodName := ⟨RX3, "addCarried", "([I[I)V"⟩
abbrev cX3_sameHeader : ByteArray := prog_5_method_8_code
def yX3_sameHeader : MethodName := ⟨RX3, "sameHeader", "([I[I)Z"⟩
abbrev cX3_sizeOf : ByteArray := prog_5_method_9_code
def yX3_sizeOf : MethodName := ⟨RX3, "sizeOf", "([I)I"⟩
abbrev cX3_bytesOf : ByteArray := prog_5_method_10_code
def yX3_bytesOf : MethodName := ⟨RX3, "bytesOf", "(I)I"⟩
def RX4 : String := "HeaderSqueezer$Script"
def TX4 : u_T := fun k => match k with
  | 0 => ("HeaderSqueezer$Script", "text", "[I", true)
  | 1 => ("HeaderSqueezer$Script", "length", "I", false)
  | 2 => ("HeaderSqueezer$Script", "letters", "[I", true)
  | 3 => ("HeaderSqueezer$Script", "numbers", "[I", true)
  | _ => ("HeaderSqueezer$Script", "orders", "I", false)
def tyX4 : Nat → FieldType := fun k => match k with
  | 0 => .array .int
  | 1 => .int
  | 2 => .array .int
  | 3 => .array .int
  | _ => .int
abbrev wsX40 : List Cond := u_ws RX4 TX4 5
theorem nmX4 : ∀ a, a < 5 → ∀ b, b < 5 → a ≠ b → (TX4 a).2.1 ≠ (TX4 b).2.1 := by decide +kernel
theorem tyX4_ok : ∀ k, k < 5 → parseFieldDescriptor (TX4 k).2.2.1 = some (tyX4 k) := by decide +kernel
abbrev cX4_init : ByteArray := prog_6_method_1_code
def yX4_init : MethodName := ⟨RX4, "<init>", "()V"⟩
def RX5 : String := "HeaderSqueezer$Sender"
def TX5 : u_T := fun k => match k with
  | 0 => ("HeaderSqueezer$Sender", "log", "LHeaderSqueezer$PacketLog;", true)
  | 1 => ("HeaderSqueezer$Sender", "present", "[I", true)
  | 2 => ("HeaderSqueezer$Sender", "policy", "I", false)
  | 3 => ("HeaderSqueezer$Sender", "confidence", "I", false)
  | 4 => ("HeaderSqueezer$Sender", "repairDue", "Z", false)
  | 5 => ("HeaderSqueezer$Sender", "sentPackets", "I", false)
  | 6 => ("HeaderSqueezer$Sender", "fullPackets", "I", false)
  | 7 => ("HeaderSqueezer$Sender", "sentBytes", "I", false)
  | 8 => ("HeaderSqueezer$Sender", "acknowledged", "[I", true)
  | 9 => ("HeaderSqueezer$Sender", "base", "[I", true)
  | _ => ("HeaderSqueezer$Sender", "relation", "[I", true)
def tyX5 : Nat → FieldType := fun k => match k with
  | 0 => .object "HeaderSqueezer$PacketLog"
  | 1 => .array .int
  | 2 => .int
  | 3 => .int
  | 4 => .boolean
  | 5 => .int
  | 6 => .int
  | 7 => .int
  | 8 => .array .int
  | 9 => .array .int
  | _ => .array .int
abbrev wsX50 : List Cond := u_ws RX5 TX5 11
theorem nmX5 : ∀ a, a < 11 → ∀ b, b < 11 → a ≠ b → (TX5 a).2.1 ≠ (TX5 b).2.1 := by decide +kernel
theorem tyX5_ok : ∀ k, k < 11 → parseFieldDescriptor (TX5 k).2.2.1 = some (tyX5 k) := by decide +kernel
abbrev cX5_init : ByteArray := prog_7_method_1_code
def yX5_init : MethodName := ⟨RX5, "<init>", "(LHeaderSqueezer$PacketLog;)V"⟩
abbrev cX5_copyFrom : ByteArray := prog_7_method_2_code
def yX5_copyFrom : MethodName := ⟨RX5, "copyFrom", "(LHeaderSqueezer$Sender;)V"⟩
abbrev cX5_step : ByteArray := prog_7_method_3_code
def yX5_step : MethodName := ⟨RX5, "step", "()V"⟩
abbrev cX5_trustedReference : ByteArray := prog_7_method_4_code
def yX5_trustedReference : MethodName := ⟨RX5, "trustedReference", "(I)I"⟩
abbrev cX5_usedReference : ByteArray := prog_7_method_5_code
def yX5_usedReference : MethodName := ⟨RX5, "usedReference", "(II)I"⟩
abbrev cX5_sizeFrom : ByteArray := prog_7_method_6_code
def yX5_sizeFrom : MethodName := ⟨RX5, "sizeFrom", "(II)I"⟩
abbrev cX5_sendPresent : ByteArray := prog_7_method_7_code
def yX5_sendPresent : MethodName := ⟨RX5, "sendPresent", "()I"⟩
abbrev cX5_hear : ByteArray := prog_7_method_8_code
def yX5_hear : MethodName := ⟨RX5, "hear", "(I)V"⟩
abbrev cX5_savedBytes : ByteArray := prog_7_method_9_code
def yX5_savedBytes : MethodName := ⟨RX5, "savedBytes", "()I"⟩
abbrev cX5_sentValue : ByteArray := prog_7_method_10_code
def yX5_sentValue : MethodName := ⟨RX5, "sentValue", "(II)I"⟩
def RX6 : String := "HeaderSqueezer$State"
def TX6 : u_T := fun k => match k with
  | 0 => ("HeaderSqueezer$State", "sender", "LHeaderSqueezer$Sender;", true)
  | 1 => ("HeaderSqueezer$State", "receiver", "LHeaderSqueezer$Receiver;", true)
  | 2 => ("HeaderSqueezer$State", "forward", "LHeaderSqueezer$Link;", true)
  | _ => ("HeaderSqueezer$State", "back", "LHeaderSqueezer$Link;", true)
def tyX6 : Nat → FieldType := fun k => match k with
  | 0 => .object "HeaderSqueezer$Sender"
  | 1 => .object "HeaderSqueezer$Receiver"
  | 2 => .object "HeaderSqueezer$Link"
  | _ => .object "HeaderSqueezer$Link"
abbrev wsX60 : List Cond := u_ws RX6 TX6 4
theorem nmX6 : ∀ a, a < 4 → ∀ b, b < 4 → a ≠ b → (TX6 a).2.1 ≠ (TX6 b).2.1 := by decide +kernel
theorem tyX6_ok : ∀ k, k < 4 → parseFieldDescriptor (TX6 k).2.2.1 = some (tyX6 k) := by decide +kernel
abbrev cX6_init : ByteArray := prog_8_method_1_code
def yX6_init : MethodName := ⟨RX6, "<init>", "(LHeaderSqueezer$PacketLog;)V"⟩
abbrev cX6_copyFrom : ByteArray := prog_8_method_2_code
def yX6_copyFrom : MethodName := ⟨RX6, "copyFrom", "(LHeaderSqueezer$State;)V"⟩
abbrev cX6_hasRoomFor : ByteArray := prog_8_method_3_code
def yX6_hasRoomFor : MethodName := ⟨RX6, "hasRoomFor", "(I)Z"⟩
abbrev cX6_sendNext : ByteArray := prog_8_method_4_code
def yX6_sendNext : MethodName := ⟨RX6, "sendNext", "()I"⟩
abbrev cX6_deliverPacket : ByteArray := prog_8_method_5_code
def yX6_deliverPacket : MethodName := ⟨RX6, "deliverPacket", "(I)I"⟩
abbrev cX6_deliverMessage : ByteArray := prog_8_method_6_code
def yX6_deliverMessage : MethodName := ⟨RX6, "deliverMessage", "(I)I"⟩
abbrev cX6_countOf : ByteArray := prog_8_method_7_code
def yX6_countOf : MethodName := ⟨RX6, "countOf", "(I)I"⟩
def RX7 : String := "HeaderSqueezer$Window"
def TX7 : u_T := fun k => match k with
  | 0 => ("HeaderSqueezer$Window", "numbers", "[I", true)
  | _ => ("HeaderSqueezer$Window", "rows", "[[I", true)
def tyX7 : Nat → FieldType := fun k => match k with
  | 0 => .array .int
  | _ => .array (.array .int)
abbrev wsX70 : List Cond := u_ws RX7 TX7 2
theorem nmX7 : ∀ a, a < 2 → ∀ b, b < 2 → a ≠ b → (TX7 a).2.1 ≠ (TX7 b).2.1 := by decide +kernel
theorem tyX7_ok : ∀ k, k < 2 → parseFieldDescriptor (TX7 k).2.2.1 = some (tyX7 k) := by decide +kernel
abbrev cX7_init : ByteArray := prog_9_method_1_code
def yX7_init : MethodName := ⟨RX7, "<init>", "()V"⟩
abbrev cX7_copyFrom : ByteArray := prog_9_method_2_code
def yX7_copyFrom : MethodName := ⟨RX7, "copyFrom", "(LHeaderSqueezer$Window;)V"⟩
abbrev cX7_has : ByteArray := prog_9_method_3_code
def yX7_has : MethodName := ⟨RX7, "has", "(I)Z"⟩
abbrev cX7_rowOf : ByteArray := prog_9_method_4_code
def yX7_rowOf : MethodName := ⟨RX7, "rowOf", "(I)[I"⟩
abbrev cX7_keep : ByteArray := prog_9_method_5_code
def yX7_keep : MethodName := ⟨RX7, "keep", "(I[I)V"⟩
abbrev cX7_dropUpTo : ByteArray := prog_9_method_6_code
def yX7_dropUpTo : MethodName := ⟨RX7, "dropUpTo", "(I)V"⟩
abbrev cX7_size : ByteArray := prog_9_method_7_code
def yX7_size : MethodName := ⟨RX7, "size", "()I"⟩
abbrev cX7_valueOf : ByteArray := prog_9_method_8_code
def yX7_valueOf : MethodName := ⟨RX7, "valueOf", "(II)I"⟩
def RX8 : String := "HeaderSqueezer"
def TX8 : u_T := fun k => match k with
  | 0 => ("HeaderSqueezer", "now", "LHeaderSqueezer$State;", true)
  | 1 => ("HeaderSqueezer", "places", "[LHeaderSqueezer$State;", true)
  | 2 => ("HeaderSqueezer", "newest", "I", false)
  | 3 => ("HeaderSqueezer", "savedStates", "I", false)
  | _ => ("HeaderSqueezer", "script", "LHeaderSqueezer$Script;", true)
def tyX8 : Nat → FieldType := fun k => match k with
  | 0 => .object "HeaderSqueezer$State"
  | 1 => .array (.object "HeaderSqueezer$State")
  | 2 => .int
  | 3 => .int
  | _ => .object "HeaderSqueezer$Script"
abbrev wsX80 : List Cond := u_ws RX8 TX8 5
theorem nmX8 : ∀ a, a < 5 → ∀ b, b < 5 → a ≠ b → (TX8 a).2.1 ≠ (TX8 b).2.1 := by decide +kernel
theorem tyX8_ok : ∀ k, k < 5 → parseFieldDescriptor (TX8 k).2.2.1 = some (tyX8 k) := by decide +kernel
abbrev cX8_init : ByteArray := prog_1_method_1_code
def yX8_init : MethodName := ⟨RX8, "<init>", "()V"⟩
abbrev cX8_setField : ByteArray := prog_1_method_2_code
def yX8_setField : MethodName := ⟨RX8, "setField", "(II)I"⟩
abbrev cX8_setStrides : ByteArray := prog_1_method_3_code
def yX8_setStrides : MethodName := ⟨RX8, "setStrides", "(II)I"⟩
abbrev cX8_setPolicy : ByteArray := prog_1_method_4_code
def yX8_setPolicy : MethodName := ⟨RX8, "setPolicy", "(II)I"⟩
abbrev cX8_advance : ByteArray := prog_1_method_5_code
def yX8_advance : MethodName := ⟨RX8, "advance", "()I"⟩
abbrev cX8_send : ByteArray := prog_1_method_6_code
def yX8_send : MethodName := ⟨RX8, "send", "()I"⟩
abbrev cX8_stream : ByteArray := prog_1_method_7_code
def yX8_stream : MethodName := ⟨RX8, "stream", "(I)I"⟩
abbrev cX8_field : ByteArray := prog_1_method_8_code
def yX8_field : MethodName := ⟨RX8, "field", "(I)I"⟩
abbrev cX8_sizeWith : ByteArray := prog_1_method_9_code
def yX8_sizeWith : MethodName := ⟨RX8, "sizeWith", "(II)I"⟩
abbrev cX8_reference : ByteArray := prog_1_method_10_code
def yX8_reference : MethodName := ⟨RX8, "reference", "()I"⟩
abbrev cX8_sent : ByteArray := prog_1_method_11_code
def yX8_sent : MethodName := ⟨RX8, "sent", "(II)I"⟩
abbrev cX8_deliver : ByteArray := prog_1_method_12_code
def yX8_deliver : MethodName := ⟨RX8, "deliver", "(I)I"⟩
abbrev cX8_deliverAll : ByteArray := prog_1_method_13_code
def yX8_deliverAll : MethodName := ⟨RX8, "deliverAll", "()I"⟩
abbrev cX8_lose : ByteArray := prog_1_method_14_code
def yX8_lose : MethodName := ⟨RX8, "lose", "(I)I"⟩
abbrev cX8_copy : ByteArray := prog_1_method_15_code
def yX8_copy : MethodName := ⟨RX8, "copy", "(I)I"⟩
abbrev cX8_deliverBack : ByteArray := prog_1_method_16_code
def yX8_deliverBack : MethodName := ⟨RX8, "deliverBack", "(I)I"⟩
abbrev cX8_loseBack : ByteArray := prog_1_method_17_code
def yX8_loseBack : MethodName := ⟨RX8, "loseBack", "(I)I"⟩
abbrev cX8_waiting : ByteArray := prog_1_method_18_code
def yX8_waiting : MethodName := ⟨RX8, "waiting", "(Z)I"⟩
abbrev cX8_waitingAt : ByteArray := prog_1_method_19_code
def yX8_waitingAt : MethodName := ⟨RX8, "waitingAt", "(ZI)I"⟩
abbrev cX8_setReceiver : ByteArray := prog_1_method_20_code
def yX8_setReceiver : MethodName := ⟨RX8, "setReceiver", "(III)I"⟩
abbrev cX8_highest : ByteArray := prog_1_method_21_code
def yX8_highest : MethodName := ⟨RX8, "highest", "()I"⟩
abbrev cX8_record : ByteArray := prog_1_method_22_code
def yX8_record : MethodName := ⟨RX8, "record", "(II)I"⟩
abbrev cX8_records : ByteArray := prog_1_method_23_code
def yX8_records : MethodName := ⟨RX8, "records", "()I"⟩
abbrev cX8_numberFor : ByteArray := prog_1_method_24_code
def yX8_numberFor : MethodName := ⟨RX8, "numberFor", "(I)I"⟩
abbrev cX8_count : ByteArray := prog_1_method_25_code
def yX8_count : MethodName := ⟨RX8, "count", "(I)I"⟩
abbrev cX8_saved : ByteArray := prog_1_method_26_code
def yX8_saved : MethodName := ⟨RX8, "saved", "()I"⟩
abbrev cX8_lateness : ByteArray := prog_1_method_27_code
def yX8_lateness : MethodName := ⟨RX8, "lateness", "()I"⟩
abbrev cX8_meanSize : ByteArray := prog_1_method_28_code
def yX8_meanSize : MethodName := ⟨RX8, "meanSize", "()D"⟩
abbrev cX8_linkOf : ByteArray := prog_1_method_34_code
def yX8_linkOf : MethodName := ⟨RX8, "linkOf", "(Z)LHeaderSqueezer$Link;"⟩
abbrev cX8_nextPlace : ByteArray := prog_1_method_35_code
def yX8_nextPlace : MethodName := ⟨RX8, "nextPlace", "()I"⟩
abbrev cX8_keepNextPlace : ByteArray := prog_1_method_36_code
def yX8_keepNextPlace : MethodName := ⟨RX8, "keepNextPlace", "()V"⟩
abbrev cX8_saveState : ByteArray := prog_1_method_37_code
def yX8_saveState : MethodName := ⟨RX8, "saveState", "()V"⟩
abbrev cX8_inRange : ByteArray := prog_1_method_38_code
def yX8_inRange : MethodName := ⟨RX8, "inRange", "(III)Z"⟩
abbrev cX8_fieldMost : ByteArray := prog_1_method_39_code
def yX8_fieldMost : MethodName := ⟨RX8, "fieldMost", "(I)I"⟩
def RX9 : String := "HeaderSqueezerModel"
def TX9 : u_T := fun k => match k with
  | _ => ("", "", "", false)
def tyX9 : Nat → FieldType := fun k => match k with
  | _ => .int
abbrev wsX90 : List Cond := u_ws RX9 TX9 0
theorem nmX9 : ∀ a, a < 0 → ∀ b, b < 0 → a ≠ b → (TX9 a).2.1 ≠ (TX9 b).2.1 := by decide +kernel
theorem tyX9_ok : ∀ k, k < 0 → parseFieldDescriptor (TX9 k).2.2.1 = some (tyX9 k) := by decide +kernel
def RJx145de : String := "java/io/Serializable"
def TJx145de : u_T := fun k => match k with
  | _ => ("", "", "", false)
def tyJx145de : Nat → FieldType := fun k => match k with
  | _ => .int
abbrev wsJx145de0 : List Cond := u_ws RJx145de TJx145de 0
theorem nmJx145de : ∀ a, a < 0 → ∀ b, b < 0 → a ≠ b → (TJx145de a).2.1 ≠ (TJx145de b).2.1 := by decide +kernel
theorem tyJx145de_ok : ∀ k, k < 0 → parseFieldDescriptor (TJx145de k).2.2.1 = some (tyJx145de k) := by decide +kernel
def RJ9 : String := "java/lang/Math"
def TJ9 : u_T := fun k => match k with
  | _ => ("", "", "", false)
def tyJ9 : Nat → FieldType := fun k => match k with
  | _ => .int
abbrev wsJ90 : List Cond := u_ws RJ9 TJ9 0
theorem nmJ9 : ∀ a, a < 0 → ∀ b, b < 0 → a ≠ b → (TJ9 a).2.1 ≠ (TJ9 b).2.1 := by decide +kernel
theorem tyJ9_ok : ∀ k, k < 0 → parseFieldDescriptor (TJ9 k).2.2.1 = some (tyJ9 k) := by decide +kernel
abbrev cJ9_floorMod_7cf53 : ByteArray := prog_16_method_50_code
def yJ9_floorMod_7cf53 : MethodName := ⟨RJ9, "floorMod", "(II)I"⟩
abbrev cJ9_max_7cf53 : ByteArray := prog_16_method_65_code
def yJ9_max_7cf53 : MethodName := ⟨RJ9, "max", "(II)I"⟩
abbrev cJ9_min_7cf53 : ByteArray := prog_16_method_69_code
def yJ9_min_7cf53 : MethodName := ⟨RJ9, "min", "(II)I"⟩
def RJ0 : String := "java/lang/String"
def TJ0 : u_T := fun k => match k with
  | _ => ("", "", "", false)
def tyJ0 : Nat → FieldType := fun k => match k with
  | _ => .int
abbrev wsJ00 : List Cond := u_ws RJ0 TJ0 0
theorem nmJ0 : ∀ a, a < 0 → ∀ b, b < 0 → a ≠ b → (TJ0 a).2.1 ≠ (TJ0 b).2.1 := by decide +kernel
theorem tyJ0_ok : ∀ k, k < 0 → parseFieldDescriptor (TJ0 k).2.2.1 = some (tyJ0 k) := by decide +kernel
def RJ10 : String := "java/lang/System"
def TJ10 : u_T := fun k => match k with
  | _ => ("", "", "", false)
def tyJ10 : Nat → FieldType := fun k => match k with
  | _ => .int
abbrev wsJ100 : List Cond := u_ws RJ10 TJ10 0
theorem nmJ10 : ∀ a, a < 0 → ∀ b, b < 0 → a ≠ b → (TJ10 a).2.1 ≠ (TJ10 b).2.1 := by decide +kernel
theorem tyJ10_ok : ∀ k, k < 0 → parseFieldDescriptor (TJ10 k).2.2.1 = some (tyJ10 k) := by decide +kernel
def RJ7 : String := "java/util/Arrays"
def TJ7 : u_T := fun k => match k with
  | _ => ("", "", "", false)
def tyJ7 : Nat → FieldType := fun k => match k with
  | _ => .int
abbrev wsJ70 : List Cond := u_ws RJ7 TJ7 0
theorem nmJ7 : ∀ a, a < 0 → ∀ b, b < 0 → a ≠ b → (TJ7 a).2.1 ≠ (TJ7 b).2.1 := by decide +kernel
theorem tyJ7_ok : ∀ k, k < 0 → parseFieldDescriptor (TJ7 k).2.2.1 = some (tyJ7 k) := by decide +kernel
abbrev cJ7_fill_53178 : ByteArray := prog_21_method_103_code
def yJ7_fill_53178 : MethodName := ⟨RJ7, "fill", "([II)V"⟩
def RL : String := "HeaderSqueezerLaw"
abbrev cL_cell : ByteArray := method_2_code
def yL_cell : MethodName := ⟨RL, "cell", "([II)I"⟩
abbrev cL_low : ByteArray := method_3_code
def yL_low : MethodName := ⟨RL, "low", "(II)I"⟩
abbrev cL_sets : ByteArray := method_4_code
def yL_sets : MethodName := ⟨RL, "sets", "(LHeaderSqueezer;II)I"⟩
abbrev cL_strides : ByteArray := method_5_code
def yL_strides : MethodName := ⟨RL, "strides", "(LHeaderSqueezer;II)I"⟩
abbrev cL_policies : ByteArray := method_6_code
def yL_policies : MethodName := ⟨RL, "policies", "(LHeaderSqueezer;II)I"⟩
abbrev cL_sends : ByteArray := method_7_code
def yL_sends : MethodName := ⟨RL, "sends", "(LHeaderSqueezer;)I"⟩
abbrev cL_streams : ByteArray := method_8_code
def yL_streams : MethodName := ⟨RL, "streams", "(LHeaderSqueezer;I)I"⟩
abbrev cL_fieldOf : ByteArray := method_9_code
def yL_fieldOf : MethodName := ⟨RL, "fieldOf", "(LHeaderSqueezer;I)I"⟩
abbrev cL_sizeBy : ByteArray := method_10_code
def yL_sizeBy : MethodName := ⟨RL, "sizeBy", "(LHeaderSqueezer;II)I"⟩
abbrev cL_sentOf : ByteArray := method_11_code
def yL_sentOf : MethodName := ⟨RL, "sentOf", "(LHeaderSqueezer;II)I"⟩
abbrev cL_delivers : ByteArray := method_12_code
def yL_delivers : MethodName := ⟨RL, "delivers", "(LHeaderSqueezer;I)I"⟩
abbrev cL_loses : ByteArray := method_13_code
def yL_loses : MethodName := ⟨RL, "loses", "(LHeaderSqueezer;I)I"⟩
abbrev cL_copies : ByteArray := method_14_code
def yL_copies : MethodName := ⟨RL, "copies", "(LHeaderSqueezer;I)I"⟩
abbrev cL_returns : ByteArray := method_15_code
def yL_returns : MethodName := ⟨RL, "returns", "(LHeaderSqueezer;I)I"⟩
abbrev cL_losesBack : ByteArray := method_16_code
def yL_losesBack : MethodName := ⟨RL, "losesBack", "(LHeaderSqueezer;I)I"⟩
abbrev cL_waits : ByteArray := method_17_code
def yL_waits : MethodName := ⟨RL, "waits", "(LHeaderSqueezer;ZI)I"⟩
abbrev cL_receivers : ByteArray := method_18_code
def yL_receivers : MethodName := ⟨RL, "receivers", "(LHeaderSqueezer;III)I"⟩
abbrev cL_recordOf : ByteArray := method_19_code
def yL_recordOf : MethodName := ⟨RL, "recordOf", "(LHeaderSqueezer;II)I"⟩
abbrev cL_numberOf : ByteArray := method_20_code
def yL_numberOf : MethodName := ⟨RL, "numberOf", "(LHeaderSqueezer;I)I"⟩
abbrev cL_countOf : ByteArray := method_21_code
def yL_countOf : MethodName := ⟨RL, "countOf", "(LHeaderSqueezer;I)I"⟩
abbrev cL_header : ByteArray := method_22_code
def yL_header : MethodName := ⟨RL, "header", "(IIII)J"⟩
abbrev cL_part : ByteArray := method_23_code
def yL_part : MethodName := ⟨RL, "part", "(JI)I"⟩
abbrev cL_moved : ByteArray := method_24_code
def yL_moved : MethodName := ⟨RL, "moved", "(JII)J"⟩
abbrev cL_apart : ByteArray := method_25_code
def yL_apart : MethodName := ⟨RL, "apart", "(II)I"⟩
abbrev cL_trusted : ByteArray := method_26_code
def yL_trusted : MethodName := ⟨RL, "trusted", "([I[II)I"⟩
abbrev cL_size : ByteArray := method_27_code
def yL_size : MethodName := ⟨RL, "size", "(JJ)I"⟩
abbrev cL_base : ByteArray := method_28_code
def yL_base : MethodName := ⟨RL, "base", "([J[IIII)J"⟩
abbrev cL_next : ByteArray := method_29_code
def yL_next : MethodName := ⟨RL, "next", "([I[J[I[IJII)I"⟩
abbrev cL_send : ByteArray := method_30_code
def yL_send : MethodName := ⟨RL, "send", "([I[J[I[IJ[I)V"⟩
abbrev cL_take : ByteArray := method_31_code
def yL_take : MethodName := ⟨RL, "take", "([II)I"⟩
abbrev cL_message : ByteArray := method_32_code
def yL_message : MethodName := ⟨RL, "message", "([II)V"⟩
abbrev cL_numberFor : ByteArray := method_33_code
def yL_numberFor : MethodName := ⟨RL, "numberFor", "([II)I"⟩
abbrev cL_receive : ByteArray := method_34_code
def yL_receive : MethodName := ⟨RL, "receive", "([I[J[I[I[I[J[I[II)I"⟩
abbrev cL_isSo : ByteArray := method_35_code
def yL_isSo : MethodName := ⟨RL, "isSo", "(LHeaderSqueezer;[I[J[IJ[I[I[I[J[II)Z"⟩
abbrev cL_law : ByteArray := code
def yL_law : MethodName := ⟨RL, "law", "([I)Z"⟩
theorem inX0 : ∀ w ∈ wsX00, w ∈ lw_tbl := by decide +kernel
theorem inX1 : ∀ w ∈ wsX10, w ∈ lw_tbl := by decide +kernel
theorem inX2 : ∀ w ∈ wsX20, w ∈ lw_tbl := by decide +kernel
theorem inX3 : ∀ w ∈ wsX30, w ∈ lw_tbl := by decide +kernel
theorem inX4 : ∀ w ∈ wsX40, w ∈ lw_tbl := by decide +kernel
theorem inX5 : ∀ w ∈ wsX50, w ∈ lw_tbl := by decide +kernel
theorem inX6 : ∀ w ∈ wsX60, w ∈ lw_tbl := by decide +kernel
theorem inX7 : ∀ w ∈ wsX70, w ∈ lw_tbl := by decide +kernel
theorem inX8 : ∀ w ∈ wsX80, w ∈ lw_tbl := by decide +kernel
theorem inX9 : ∀ w ∈ wsX90, w ∈ lw_tbl := by decide +kernel
abbrev vwCl : List vw_C := [(RX0, TX0, 2), (RX1, TX1, 5), (RX2, TX2, 11), (RX4, TX4, 5), (RX5, TX5, 11), (RX6, TX6, 4), (RX7, TX7, 2), (RX8, TX8, 5)]
