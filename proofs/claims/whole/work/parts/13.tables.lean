/-! ===== words, tables (by program: wip/gen) ===== -/
theorem va_AOA_words : Cond.arrayClass .int ∈ qT ∧ Cond.arrayClass .long ∈ qT := ⟨qT_in (List.mem_of_getElem? (i := 111) (by decide +kernel)) (by decide +kernel), qT_in (List.mem_of_getElem? (i := 1256) (by decide +kernel)) (by decide +kernel)⟩
theorem qw11 : Cond.selects RX9 yX9_fails yX9_fails ∈ qT := qT_in (List.mem_of_getElem? (i := 11) (by decide +kernel)) (by decide +kernel)
theorem qw12 : Cond.selects RX9 yX9_hold yX9_hold ∈ qT := qT_in (List.mem_of_getElem? (i := 12) (by decide +kernel)) (by decide +kernel)
theorem qw13 : Cond.selects RX9 yX9_ends yX9_ends ∈ qT := qT_in (List.mem_of_getElem? (i := 13) (by decide +kernel)) (by decide +kernel)
theorem qw14 : Cond.selects RX9 yX9_tells yX9_tells ∈ qT := qT_in (List.mem_of_getElem? (i := 14) (by decide +kernel)) (by decide +kernel)
theorem qw15 : Cond.selects RX9 yX9_goesOn yX9_goesOn ∈ qT := qT_in (List.mem_of_getElem? (i := 15) (by decide +kernel)) (by decide +kernel)
theorem qw16 : Cond.selects RX9 yX9_maySend yX9_maySend ∈ qT := qT_in (List.mem_of_getElem? (i := 16) (by decide +kernel)) (by decide +kernel)
theorem qw17 : Cond.selects RX9 yX9_sends yX9_sends ∈ qT := qT_in (List.mem_of_getElem? (i := 17) (by decide +kernel)) (by decide +kernel)
theorem qw18 : Cond.selects RX9 yX9_trusted yX9_trusted ∈ qT := qT_in (List.mem_of_getElem? (i := 18) (by decide +kernel)) (by decide +kernel)
theorem qw19 : Cond.selects RX9 yX9_of yX9_of ∈ qT := qT_in (List.mem_of_getElem? (i := 19) (by decide +kernel)) (by decide +kernel)
theorem qw20 : Cond.selects RX9 yX9_formFor yX9_formFor ∈ qT := qT_in (List.mem_of_getElem? (i := 20) (by decide +kernel)) (by decide +kernel)
theorem qw21 : Cond.selects RX9 yX9_sizeOf yX9_sizeOf ∈ qT := qT_in (List.mem_of_getElem? (i := 21) (by decide +kernel)) (by decide +kernel)
theorem qw22 : Cond.selects RX9 yX9_senderBase yX9_senderBase ∈ qT := qT_in (List.mem_of_getElem? (i := 22) (by decide +kernel)) (by decide +kernel)
theorem qw23 : Cond.selects RX9 yX9_puts yX9_puts ∈ qT := qT_in (List.mem_of_getElem? (i := 23) (by decide +kernel)) (by decide +kernel)
theorem qw24 : Cond.selects RX9 yX9_joins yX9_joins ∈ qT := qT_in (List.mem_of_getElem? (i := 24) (by decide +kernel)) (by decide +kernel)
theorem qw25 : Cond.selects RX9 yX9_told yX9_told ∈ qT := qT_in (List.mem_of_getElem? (i := 25) (by decide +kernel)) (by decide +kernel)
theorem qw26 : Cond.selects RX9 yX9_delivers yX9_delivers ∈ qT := qT_in (List.mem_of_getElem? (i := 26) (by decide +kernel)) (by decide +kernel)
theorem qw27 : Cond.selects RX9 yX9_isIn yX9_isIn ∈ qT := qT_in (List.mem_of_getElem? (i := 27) (by decide +kernel)) (by decide +kernel)
theorem qw28 : Cond.selects RX9 yX9_takes yX9_takes ∈ qT := qT_in (List.mem_of_getElem? (i := 28) (by decide +kernel)) (by decide +kernel)
theorem qw29 : Cond.selects RX9 yX9_receives yX9_receives ∈ qT := qT_in (List.mem_of_getElem? (i := 29) (by decide +kernel)) (by decide +kernel)
theorem qw30 : Cond.selects RX9 yX9_numberOf yX9_numberOf ∈ qT := qT_in (List.mem_of_getElem? (i := 30) (by decide +kernel)) (by decide +kernel)
theorem qw31 : Cond.selects RX9 yX9_placeOf yX9_placeOf ∈ qT := qT_in (List.mem_of_getElem? (i := 31) (by decide +kernel)) (by decide +kernel)
theorem qw32 : Cond.selects RX9 yX9_fails2 yX9_fails2 ∈ qT := qT_in (List.mem_of_getElem? (i := 32) (by decide +kernel)) (by decide +kernel)
theorem qw33 : Cond.selects RX9 yX9_decodes yX9_decodes ∈ qT := qT_in (List.mem_of_getElem? (i := 33) (by decide +kernel)) (by decide +kernel)
theorem qw34 : Cond.selects RX9 yX9_keeps yX9_keeps ∈ qT := qT_in (List.mem_of_getElem? (i := 34) (by decide +kernel)) (by decide +kernel)
theorem qw35 : Cond.selects RX9 yX9_drops yX9_drops ∈ qT := qT_in (List.mem_of_getElem? (i := 35) (by decide +kernel)) (by decide +kernel)
theorem qw36 : Cond.selects RX9 yX9_done yX9_done ∈ qT := qT_in (List.mem_of_getElem? (i := 36) (by decide +kernel)) (by decide +kernel)
theorem qw37 : Cond.selects RX9 yX9_loses yX9_loses ∈ qT := qT_in (List.mem_of_getElem? (i := 37) (by decide +kernel)) (by decide +kernel)
theorem qw38 : Cond.selects RX9 yX9_copies yX9_copies ∈ qT := qT_in (List.mem_of_getElem? (i := 38) (by decide +kernel)) (by decide +kernel)
theorem qw39 : Cond.selects RX9 yX9_returns yX9_returns ∈ qT := qT_in (List.mem_of_getElem? (i := 39) (by decide +kernel)) (by decide +kernel)
theorem qw40 : Cond.selects RX9 yX9_recordOf yX9_recordOf ∈ qT := qT_in (List.mem_of_getElem? (i := 40) (by decide +kernel)) (by decide +kernel)
theorem qw41 : Cond.selects RX9 yX9_keptMany yX9_keptMany ∈ qT := qT_in (List.mem_of_getElem? (i := 41) (by decide +kernel)) (by decide +kernel)
theorem qw42 : Cond.selects RX9 yX9_counted yX9_counted ∈ qT := qT_in (List.mem_of_getElem? (i := 42) (by decide +kernel)) (by decide +kernel)
theorem qw43 : Cond.selects RX9 yX9_spared yX9_spared ∈ qT := qT_in (List.mem_of_getElem? (i := 43) (by decide +kernel)) (by decide +kernel)
theorem qw44 : Cond.selects RX9 yX9_isOrder yX9_isOrder ∈ qT := qT_in (List.mem_of_getElem? (i := 44) (by decide +kernel)) (by decide +kernel)
theorem qw45 : Cond.selects RX9 yX9_digitHere yX9_digitHere ∈ qT := qT_in (List.mem_of_getElem? (i := 45) (by decide +kernel)) (by decide +kernel)
theorem qw46 : Cond.selects RX9 yX9_isDone yX9_isDone ∈ qT := qT_in (List.mem_of_getElem? (i := 46) (by decide +kernel)) (by decide +kernel)
theorem qw47 : Cond.selects RX9 yX9_restore yX9_restore ∈ qT := qT_in (List.mem_of_getElem? (i := 47) (by decide +kernel)) (by decide +kernel)
theorem qw48 : Cond.selects RX9 yX9_mix yX9_mix ∈ qT := qT_in (List.mem_of_getElem? (i := 48) (by decide +kernel)) (by decide +kernel)
theorem qw49 : Cond.selects RX9 yX9_mixAll yX9_mixAll ∈ qT := qT_in (List.mem_of_getElem? (i := 49) (by decide +kernel)) (by decide +kernel)
theorem qw51 : Cond.initialized RX8 ∈ qT := qT_in (List.mem_of_getElem? (i := 51) (by decide +kernel)) (by decide +kernel)
theorem qw52 : Cond.initialized "HeaderSqueezer$PacketLog" ∈ qT := qT_in (List.mem_of_getElem? (i := 52) (by decide +kernel)) (by decide +kernel)
theorem qw53 : Cond.initialized "HeaderSqueezer$State" ∈ qT := qT_in (List.mem_of_getElem? (i := 53) (by decide +kernel)) (by decide +kernel)
theorem qw54 : Cond.initialized RX0 ∈ qT := qT_in (List.mem_of_getElem? (i := 54) (by decide +kernel)) (by decide +kernel)
theorem qw55 : Cond.initialized "HeaderSqueezer$Sender" ∈ qT := qT_in (List.mem_of_getElem? (i := 55) (by decide +kernel)) (by decide +kernel)
theorem qw56 : Cond.initialized "HeaderSqueezer$Receiver" ∈ qT := qT_in (List.mem_of_getElem? (i := 56) (by decide +kernel)) (by decide +kernel)
theorem qw57 : Cond.initialized RX7 ∈ qT := qT_in (List.mem_of_getElem? (i := 57) (by decide +kernel)) (by decide +kernel)
theorem qw59 : Cond.initialized "HeaderSqueezer$Script" ∈ qT := qT_in (List.mem_of_getElem? (i := 59) (by decide +kernel)) (by decide +kernel)
theorem qw60 : Cond.initialized RX9 ∈ qT := qT_in (List.mem_of_getElem? (i := 60) (by decide +kernel)) (by decide +kernel)
theorem qw66 : Cond.initialized RX3 ∈ qT := qT_in (List.mem_of_getElem? (i := 66) (by decide +kernel)) (by decide +kernel)
theorem qw67 : Cond.initialized "java/lang/System" ∈ qT := qT_in (List.mem_of_getElem? (i := 67) (by decide +kernel)) (by decide +kernel)
theorem qw68 : Cond.initialized RJ9 ∈ qT := qT_in (List.mem_of_getElem? (i := 68) (by decide +kernel)) (by decide +kernel)
theorem qw78 : Cond.classLink RX8 7 "HeaderSqueezer$PacketLog" ∈ qT := qT_in (List.mem_of_getElem? (i := 78) (by decide +kernel)) (by decide +kernel)
theorem qw79 : Cond.instantiable "HeaderSqueezer$PacketLog" 5 ∈ qT := qT_in (List.mem_of_getElem? (i := 79) (by decide +kernel)) (by decide +kernel)
theorem qw84 : Cond.classLink RX1 9 "[[I" ∈ qT := qT_in (List.mem_of_getElem? (i := 84) (by decide +kernel)) (by decide +kernel)
theorem qw86 : Cond.fieldLink RX1 11 "HeaderSqueezer$PacketLog" "records" "[[I" ∈ qT := qT_in (List.mem_of_getElem? (i := 86) (by decide +kernel)) (by decide +kernel)
theorem qw87 : Cond.fieldLink RX2 98 "HeaderSqueezer$PacketLog" "records" "[[I" ∈ qT := qT_in (List.mem_of_getElem? (i := 87) (by decide +kernel)) (by decide +kernel)
theorem qw88 : Cond.fieldLink RX5 73 "HeaderSqueezer$PacketLog" "records" "[[I" ∈ qT := qT_in (List.mem_of_getElem? (i := 88) (by decide +kernel)) (by decide +kernel)
theorem qw89 : Cond.fieldLink RX1 16 "HeaderSqueezer$PacketLog" "carried" "[[I" ∈ qT := qT_in (List.mem_of_getElem? (i := 89) (by decide +kernel)) (by decide +kernel)
theorem qw90 : Cond.fieldLink RX2 123 "HeaderSqueezer$PacketLog" "carried" "[[I" ∈ qT := qT_in (List.mem_of_getElem? (i := 90) (by decide +kernel)) (by decide +kernel)
theorem qw91 : Cond.fieldLink RX5 97 "HeaderSqueezer$PacketLog" "carried" "[[I" ∈ qT := qT_in (List.mem_of_getElem? (i := 91) (by decide +kernel)) (by decide +kernel)
theorem qw92 : Cond.fieldLink RX1 19 "HeaderSqueezer$PacketLog" "forms" "[I" ∈ qT := qT_in (List.mem_of_getElem? (i := 92) (by decide +kernel)) (by decide +kernel)
theorem qw93 : Cond.fieldLink RX2 70 "HeaderSqueezer$PacketLog" "forms" "[I" ∈ qT := qT_in (List.mem_of_getElem? (i := 93) (by decide +kernel)) (by decide +kernel)
theorem qw94 : Cond.fieldLink RX5 100 "HeaderSqueezer$PacketLog" "forms" "[I" ∈ qT := qT_in (List.mem_of_getElem? (i := 94) (by decide +kernel)) (by decide +kernel)
theorem qw95 : Cond.fieldLink RX1 23 "HeaderSqueezer$PacketLog" "references" "[I" ∈ qT := qT_in (List.mem_of_getElem? (i := 95) (by decide +kernel)) (by decide +kernel)
theorem qw96 : Cond.fieldLink RX2 112 "HeaderSqueezer$PacketLog" "references" "[I" ∈ qT := qT_in (List.mem_of_getElem? (i := 96) (by decide +kernel)) (by decide +kernel)
theorem qw97 : Cond.fieldLink RX5 103 "HeaderSqueezer$PacketLog" "references" "[I" ∈ qT := qT_in (List.mem_of_getElem? (i := 97) (by decide +kernel)) (by decide +kernel)
theorem qw98 : Cond.fieldLink RX1 26 "HeaderSqueezer$PacketLog" "sizes" "[I" ∈ qT := qT_in (List.mem_of_getElem? (i := 98) (by decide +kernel)) (by decide +kernel)
theorem qw99 : Cond.fieldLink RX5 106 "HeaderSqueezer$PacketLog" "sizes" "[I" ∈ qT := qT_in (List.mem_of_getElem? (i := 99) (by decide +kernel)) (by decide +kernel)
theorem qw112 : Cond.classLink RX8 10 "HeaderSqueezer$State" ∈ qT := qT_in (List.mem_of_getElem? (i := 112) (by decide +kernel)) (by decide +kernel)
theorem qw113 : Cond.instantiable "HeaderSqueezer$State" 4 ∈ qT := qT_in (List.mem_of_getElem? (i := 113) (by decide +kernel)) (by decide +kernel)
theorem qw118 : Cond.classLink RX6 9 "HeaderSqueezer$Link" ∈ qT := qT_in (List.mem_of_getElem? (i := 118) (by decide +kernel)) (by decide +kernel)
theorem qw119 : Cond.instantiable "HeaderSqueezer$Link" 2 ∈ qT := qT_in (List.mem_of_getElem? (i := 119) (by decide +kernel)) (by decide +kernel)
theorem qw124 : Cond.fieldLink RX0 9 "HeaderSqueezer$Link" "items" "[I" ∈ qT := qT_in (List.mem_of_getElem? (i := 124) (by decide +kernel)) (by decide +kernel)
theorem qw125 : Cond.fieldLink RX6 99 "HeaderSqueezer$Link" "items" "[I" ∈ qT := qT_in (List.mem_of_getElem? (i := 125) (by decide +kernel)) (by decide +kernel)
theorem qw126 : Cond.fieldLink RX8 142 "HeaderSqueezer$Link" "items" "[I" ∈ qT := qT_in (List.mem_of_getElem? (i := 126) (by decide +kernel)) (by decide +kernel)
theorem qw127 : Cond.fieldLink RX0 15 "HeaderSqueezer$Link" "length" "I" ∈ qT := qT_in (List.mem_of_getElem? (i := 127) (by decide +kernel)) (by decide +kernel)
theorem qw128 : Cond.fieldLink RX6 51 "HeaderSqueezer$Link" "length" "I" ∈ qT := qT_in (List.mem_of_getElem? (i := 128) (by decide +kernel)) (by decide +kernel)
theorem qw129 : Cond.fieldLink RX8 100 "HeaderSqueezer$Link" "length" "I" ∈ qT := qT_in (List.mem_of_getElem? (i := 129) (by decide +kernel)) (by decide +kernel)
theorem qw135 : Cond.classLink RX6 21 "HeaderSqueezer$Sender" ∈ qT := qT_in (List.mem_of_getElem? (i := 135) (by decide +kernel)) (by decide +kernel)
theorem qw136 : Cond.instantiable "HeaderSqueezer$Sender" 11 ∈ qT := qT_in (List.mem_of_getElem? (i := 136) (by decide +kernel)) (by decide +kernel)
theorem qw141 : Cond.fieldLink RX5 44 "HeaderSqueezer$Sender" "log" "LHeaderSqueezer$PacketLog;" ∈ qT := qT_in (List.mem_of_getElem? (i := 141) (by decide +kernel)) (by decide +kernel)
theorem qw142 : Cond.fieldLink RX5 9 "HeaderSqueezer$Sender" "present" "[I" ∈ qT := qT_in (List.mem_of_getElem? (i := 142) (by decide +kernel)) (by decide +kernel)
theorem qw143 : Cond.fieldLink RX8 59 "HeaderSqueezer$Sender" "present" "[I" ∈ qT := qT_in (List.mem_of_getElem? (i := 143) (by decide +kernel)) (by decide +kernel)
theorem qw144 : Cond.fieldLink RX5 15 "HeaderSqueezer$Sender" "policy" "I" ∈ qT := qT_in (List.mem_of_getElem? (i := 144) (by decide +kernel)) (by decide +kernel)
theorem qw145 : Cond.fieldLink RX8 69 "HeaderSqueezer$Sender" "policy" "I" ∈ qT := qT_in (List.mem_of_getElem? (i := 145) (by decide +kernel)) (by decide +kernel)
theorem qw146 : Cond.fieldLink RX5 19 "HeaderSqueezer$Sender" "confidence" "I" ∈ qT := qT_in (List.mem_of_getElem? (i := 146) (by decide +kernel)) (by decide +kernel)
theorem qw147 : Cond.fieldLink RX8 73 "HeaderSqueezer$Sender" "confidence" "I" ∈ qT := qT_in (List.mem_of_getElem? (i := 147) (by decide +kernel)) (by decide +kernel)
theorem qw148 : Cond.fieldLink RX5 22 "HeaderSqueezer$Sender" "repairDue" "Z" ∈ qT := qT_in (List.mem_of_getElem? (i := 148) (by decide +kernel)) (by decide +kernel)
theorem qw149 : Cond.fieldLink RX5 26 "HeaderSqueezer$Sender" "sentPackets" "I" ∈ qT := qT_in (List.mem_of_getElem? (i := 149) (by decide +kernel)) (by decide +kernel)
theorem qw150 : Cond.fieldLink RX6 47 "HeaderSqueezer$Sender" "sentPackets" "I" ∈ qT := qT_in (List.mem_of_getElem? (i := 150) (by decide +kernel)) (by decide +kernel)
theorem qw151 : Cond.fieldLink RX8 115 "HeaderSqueezer$Sender" "sentPackets" "I" ∈ qT := qT_in (List.mem_of_getElem? (i := 151) (by decide +kernel)) (by decide +kernel)
theorem qw152 : Cond.fieldLink RX5 29 "HeaderSqueezer$Sender" "fullPackets" "I" ∈ qT := qT_in (List.mem_of_getElem? (i := 152) (by decide +kernel)) (by decide +kernel)
theorem qw153 : Cond.fieldLink RX6 83 "HeaderSqueezer$Sender" "fullPackets" "I" ∈ qT := qT_in (List.mem_of_getElem? (i := 153) (by decide +kernel)) (by decide +kernel)
theorem qw154 : Cond.fieldLink RX5 32 "HeaderSqueezer$Sender" "sentBytes" "I" ∈ qT := qT_in (List.mem_of_getElem? (i := 154) (by decide +kernel)) (by decide +kernel)
theorem qw155 : Cond.fieldLink RX8 211 "HeaderSqueezer$Sender" "sentBytes" "I" ∈ qT := qT_in (List.mem_of_getElem? (i := 155) (by decide +kernel)) (by decide +kernel)
theorem qw156 : Cond.fieldLink RX5 35 "HeaderSqueezer$Sender" "acknowledged" "[I" ∈ qT := qT_in (List.mem_of_getElem? (i := 156) (by decide +kernel)) (by decide +kernel)
theorem qw157 : Cond.fieldLink RX5 38 "HeaderSqueezer$Sender" "base" "[I" ∈ qT := qT_in (List.mem_of_getElem? (i := 157) (by decide +kernel)) (by decide +kernel)
theorem qw158 : Cond.fieldLink RX5 41 "HeaderSqueezer$Sender" "relation" "[I" ∈ qT := qT_in (List.mem_of_getElem? (i := 158) (by decide +kernel)) (by decide +kernel)
theorem qw182 : Cond.classLink RX6 30 "HeaderSqueezer$Receiver" ∈ qT := qT_in (List.mem_of_getElem? (i := 182) (by decide +kernel)) (by decide +kernel)
theorem qw183 : Cond.instantiable "HeaderSqueezer$Receiver" 11 ∈ qT := qT_in (List.mem_of_getElem? (i := 183) (by decide +kernel)) (by decide +kernel)
theorem qw188 : Cond.classLink RX2 37 "HeaderSqueezer$Window" ∈ qT := qT_in (List.mem_of_getElem? (i := 188) (by decide +kernel)) (by decide +kernel)
theorem qw189 : Cond.instantiable "HeaderSqueezer$Window" 2 ∈ qT := qT_in (List.mem_of_getElem? (i := 189) (by decide +kernel)) (by decide +kernel)
theorem qw194 : Cond.classLink RX7 15 "[[I" ∈ qT := qT_in (List.mem_of_getElem? (i := 194) (by decide +kernel)) (by decide +kernel)
theorem qw198 : Cond.fieldLink RX7 9 "HeaderSqueezer$Window" "numbers" "[I" ∈ qT := qT_in (List.mem_of_getElem? (i := 198) (by decide +kernel)) (by decide +kernel)
theorem qw199 : Cond.fieldLink RX7 17 "HeaderSqueezer$Window" "rows" "[[I" ∈ qT := qT_in (List.mem_of_getElem? (i := 199) (by decide +kernel)) (by decide +kernel)
theorem qw205 : Cond.fieldLink RX2 47 "HeaderSqueezer$Receiver" "log" "LHeaderSqueezer$PacketLog;" ∈ qT := qT_in (List.mem_of_getElem? (i := 205) (by decide +kernel)) (by decide +kernel)
theorem qw206 : Cond.fieldLink RX2 9 "HeaderSqueezer$Receiver" "depth" "I" ∈ qT := qT_in (List.mem_of_getElem? (i := 206) (by decide +kernel)) (by decide +kernel)
theorem qw207 : Cond.fieldLink RX8 169 "HeaderSqueezer$Receiver" "depth" "I" ∈ qT := qT_in (List.mem_of_getElem? (i := 207) (by decide +kernel)) (by decide +kernel)
theorem qw208 : Cond.fieldLink RX2 15 "HeaderSqueezer$Receiver" "interval" "I" ∈ qT := qT_in (List.mem_of_getElem? (i := 208) (by decide +kernel)) (by decide +kernel)
theorem qw209 : Cond.fieldLink RX8 174 "HeaderSqueezer$Receiver" "interval" "I" ∈ qT := qT_in (List.mem_of_getElem? (i := 209) (by decide +kernel)) (by decide +kernel)
theorem qw210 : Cond.fieldLink RX2 18 "HeaderSqueezer$Receiver" "patience" "I" ∈ qT := qT_in (List.mem_of_getElem? (i := 210) (by decide +kernel)) (by decide +kernel)
theorem qw211 : Cond.fieldLink RX8 177 "HeaderSqueezer$Receiver" "patience" "I" ∈ qT := qT_in (List.mem_of_getElem? (i := 211) (by decide +kernel)) (by decide +kernel)
theorem qw212 : Cond.fieldLink RX2 21 "HeaderSqueezer$Receiver" "highest" "I" ∈ qT := qT_in (List.mem_of_getElem? (i := 212) (by decide +kernel)) (by decide +kernel)
theorem qw213 : Cond.fieldLink RX8 180 "HeaderSqueezer$Receiver" "highest" "I" ∈ qT := qT_in (List.mem_of_getElem? (i := 213) (by decide +kernel)) (by decide +kernel)
theorem qw214 : Cond.fieldLink RX2 24 "HeaderSqueezer$Receiver" "unknownInRow" "I" ∈ qT := qT_in (List.mem_of_getElem? (i := 214) (by decide +kernel)) (by decide +kernel)
theorem qw215 : Cond.fieldLink RX2 27 "HeaderSqueezer$Receiver" "requests" "I" ∈ qT := qT_in (List.mem_of_getElem? (i := 215) (by decide +kernel)) (by decide +kernel)
theorem qw216 : Cond.fieldLink RX6 80 "HeaderSqueezer$Receiver" "requests" "I" ∈ qT := qT_in (List.mem_of_getElem? (i := 216) (by decide +kernel)) (by decide +kernel)
theorem qw217 : Cond.fieldLink RX2 30 "HeaderSqueezer$Receiver" "lateness" "I" ∈ qT := qT_in (List.mem_of_getElem? (i := 217) (by decide +kernel)) (by decide +kernel)
theorem qw218 : Cond.fieldLink RX8 208 "HeaderSqueezer$Receiver" "lateness" "I" ∈ qT := qT_in (List.mem_of_getElem? (i := 218) (by decide +kernel)) (by decide +kernel)
theorem qw219 : Cond.fieldLink RX2 33 "HeaderSqueezer$Receiver" "outcomes" "[I" ∈ qT := qT_in (List.mem_of_getElem? (i := 219) (by decide +kernel)) (by decide +kernel)
theorem qw220 : Cond.fieldLink RX6 76 "HeaderSqueezer$Receiver" "outcomes" "[I" ∈ qT := qT_in (List.mem_of_getElem? (i := 220) (by decide +kernel)) (by decide +kernel)
theorem qw221 : Cond.fieldLink RX2 40 "HeaderSqueezer$Receiver" "window" "LHeaderSqueezer$Window;" ∈ qT := qT_in (List.mem_of_getElem? (i := 221) (by decide +kernel)) (by decide +kernel)
theorem qw222 : Cond.fieldLink RX8 185 "HeaderSqueezer$Receiver" "window" "LHeaderSqueezer$Window;" ∈ qT := qT_in (List.mem_of_getElem? (i := 222) (by decide +kernel)) (by decide +kernel)
theorem qw223 : Cond.fieldLink RX2 44 "HeaderSqueezer$Receiver" "decoded" "[I" ∈ qT := qT_in (List.mem_of_getElem? (i := 223) (by decide +kernel)) (by decide +kernel)
theorem qw247 : Cond.fieldLink RX6 26 "HeaderSqueezer$State" "sender" "LHeaderSqueezer$Sender;" ∈ qT := qT_in (List.mem_of_getElem? (i := 247) (by decide +kernel)) (by decide +kernel)
theorem qw248 : Cond.fieldLink RX8 55 "HeaderSqueezer$State" "sender" "LHeaderSqueezer$Sender;" ∈ qT := qT_in (List.mem_of_getElem? (i := 248) (by decide +kernel)) (by decide +kernel)
theorem qw249 : Cond.fieldLink RX6 33 "HeaderSqueezer$State" "receiver" "LHeaderSqueezer$Receiver;" ∈ qT := qT_in (List.mem_of_getElem? (i := 249) (by decide +kernel)) (by decide +kernel)
theorem qw250 : Cond.fieldLink RX8 165 "HeaderSqueezer$State" "receiver" "LHeaderSqueezer$Receiver;" ∈ qT := qT_in (List.mem_of_getElem? (i := 250) (by decide +kernel)) (by decide +kernel)
theorem qw251 : Cond.fieldLink RX6 12 "HeaderSqueezer$State" "forward" "LHeaderSqueezer$Link;" ∈ qT := qT_in (List.mem_of_getElem? (i := 251) (by decide +kernel)) (by decide +kernel)
theorem qw252 : Cond.fieldLink RX8 96 "HeaderSqueezer$State" "forward" "LHeaderSqueezer$Link;" ∈ qT := qT_in (List.mem_of_getElem? (i := 252) (by decide +kernel)) (by decide +kernel)
theorem qw253 : Cond.fieldLink RX6 18 "HeaderSqueezer$State" "back" "LHeaderSqueezer$Link;" ∈ qT := qT_in (List.mem_of_getElem? (i := 253) (by decide +kernel)) (by decide +kernel)
theorem qw254 : Cond.fieldLink RX8 149 "HeaderSqueezer$State" "back" "LHeaderSqueezer$Link;" ∈ qT := qT_in (List.mem_of_getElem? (i := 254) (by decide +kernel)) (by decide +kernel)
theorem qw265 : Cond.classLink RX8 25 "HeaderSqueezer$Script" ∈ qT := qT_in (List.mem_of_getElem? (i := 265) (by decide +kernel)) (by decide +kernel)
theorem qw266 : Cond.instantiable "HeaderSqueezer$Script" 5 ∈ qT := qT_in (List.mem_of_getElem? (i := 266) (by decide +kernel)) (by decide +kernel)
theorem qw271 : Cond.fieldLink RX4 9 "HeaderSqueezer$Script" "text" "[I" ∈ qT := qT_in (List.mem_of_getElem? (i := 271) (by decide +kernel)) (by decide +kernel)
theorem qw272 : Cond.fieldLink RX8 217 "HeaderSqueezer$Script" "text" "[I" ∈ qT := qT_in (List.mem_of_getElem? (i := 272) (by decide +kernel)) (by decide +kernel)
theorem qw273 : Cond.fieldLink RX4 15 "HeaderSqueezer$Script" "length" "I" ∈ qT := qT_in (List.mem_of_getElem? (i := 273) (by decide +kernel)) (by decide +kernel)
theorem qw274 : Cond.fieldLink RX8 214 "HeaderSqueezer$Script" "length" "I" ∈ qT := qT_in (List.mem_of_getElem? (i := 274) (by decide +kernel)) (by decide +kernel)
theorem qw275 : Cond.fieldLink RX4 19 "HeaderSqueezer$Script" "letters" "[I" ∈ qT := qT_in (List.mem_of_getElem? (i := 275) (by decide +kernel)) (by decide +kernel)
theorem qw276 : Cond.fieldLink RX8 233 "HeaderSqueezer$Script" "letters" "[I" ∈ qT := qT_in (List.mem_of_getElem? (i := 276) (by decide +kernel)) (by decide +kernel)
theorem qw277 : Cond.fieldLink RX4 22 "HeaderSqueezer$Script" "numbers" "[I" ∈ qT := qT_in (List.mem_of_getElem? (i := 277) (by decide +kernel)) (by decide +kernel)
theorem qw278 : Cond.fieldLink RX8 236 "HeaderSqueezer$Script" "numbers" "[I" ∈ qT := qT_in (List.mem_of_getElem? (i := 278) (by decide +kernel)) (by decide +kernel)
theorem qw279 : Cond.fieldLink RX4 25 "HeaderSqueezer$Script" "orders" "I" ∈ qT := qT_in (List.mem_of_getElem? (i := 279) (by decide +kernel)) (by decide +kernel)
theorem qw280 : Cond.fieldLink RX8 230 "HeaderSqueezer$Script" "orders" "I" ∈ qT := qT_in (List.mem_of_getElem? (i := 280) (by decide +kernel)) (by decide +kernel)
theorem qw292 : Cond.fieldLink RX8 15 "HeaderSqueezer" "now" "LHeaderSqueezer$State;" ∈ qT := qT_in (List.mem_of_getElem? (i := 292) (by decide +kernel)) (by decide +kernel)
theorem qw293 : Cond.fieldLink RX8 21 "HeaderSqueezer" "places" "[LHeaderSqueezer$State;" ∈ qT := qT_in (List.mem_of_getElem? (i := 293) (by decide +kernel)) (by decide +kernel)
theorem qw294 : Cond.fieldLink RX8 251 "HeaderSqueezer" "newest" "I" ∈ qT := qT_in (List.mem_of_getElem? (i := 294) (by decide +kernel)) (by decide +kernel)
theorem qw295 : Cond.fieldLink RX8 246 "HeaderSqueezer" "savedStates" "I" ∈ qT := qT_in (List.mem_of_getElem? (i := 295) (by decide +kernel)) (by decide +kernel)
theorem qw296 : Cond.fieldLink RX8 28 "HeaderSqueezer" "script" "LHeaderSqueezer$Script;" ∈ qT := qT_in (List.mem_of_getElem? (i := 296) (by decide +kernel)) (by decide +kernel)
theorem qw329 : Cond.static yX3_copyRow ∈ qT := qT_in (List.mem_of_getElem? (i := 329) (by decide +kernel)) (by decide +kernel)
theorem qw330 : Cond.code yX3_copyRow cX3_copyRow 2 none ∈ qT := qT_in (List.mem_of_getElem? (i := 330) (by decide +kernel)) (by decide +kernel)
theorem qw331 : Cond.methodLink RX3 10 arraycopyName ∈ qT := qT_in (List.mem_of_getElem? (i := 331) (by decide +kernel)) (by decide +kernel)
theorem qw332 : Cond.static arraycopyName ∈ qT := qT_in (List.mem_of_getElem? (i := 332) (by decide +kernel)) (by decide +kernel)
theorem qw333 : Cond.native arraycopyName ∈ qT := qT_in (List.mem_of_getElem? (i := 333) (by decide +kernel)) (by decide +kernel)
theorem qw344 : Cond.methodLink RX7 26 arraycopyName ∈ qT := qT_in (List.mem_of_getElem? (i := 344) (by decide +kernel)) (by decide +kernel)
theorem qw345 : Cond.methodLink RX7 32 yX3_copyRow ∈ qT := qT_in (List.mem_of_getElem? (i := 345) (by decide +kernel)) (by decide +kernel)
theorem qw350 : Cond.methodLink RX0 19 arraycopyName ∈ qT := qT_in (List.mem_of_getElem? (i := 350) (by decide +kernel)) (by decide +kernel)
theorem qw363 : Cond.static yX3_wrapped ∈ qT := qT_in (List.mem_of_getElem? (i := 363) (by decide +kernel)) (by decide +kernel)
theorem qw364 : Cond.code yX3_wrapped cX3_wrapped 1 (some .int) ∈ qT := qT_in (List.mem_of_getElem? (i := 364) (by decide +kernel)) (by decide +kernel)
theorem qw365 : Cond.constant RX3 9 (65535) ∈ qT := qT_in (List.mem_of_getElem? (i := 365) (by decide +kernel)) (by decide +kernel)
theorem qw399 : Cond.static yJ9_floorMod_7cf53 ∈ qT := qT_in (List.mem_of_getElem? (i := 399) (by decide +kernel)) (by decide +kernel)
theorem qw400 : Cond.code yJ9_floorMod_7cf53 cJ9_floorMod_7cf53 3 (some .int) ∈ qT := qT_in (List.mem_of_getElem? (i := 400) (by decide +kernel)) (by decide +kernel)
theorem qw402 : Cond.instanceMethod yX7_has ∈ qT := qT_in (List.mem_of_getElem? (i := 402) (by decide +kernel)) (by decide +kernel)
theorem qw403 : Cond.selects RX7 yX7_has yX7_has ∈ qT := qT_in (List.mem_of_getElem? (i := 403) (by decide +kernel)) (by decide +kernel)
theorem qw404 : Cond.code yX7_has cX7_has 2 (some .boolean) ∈ qT := qT_in (List.mem_of_getElem? (i := 404) (by decide +kernel)) (by decide +kernel)
theorem qw411 : Cond.instanceMethod yX7_rowOf ∈ qT := qT_in (List.mem_of_getElem? (i := 411) (by decide +kernel)) (by decide +kernel)
theorem qw412 : Cond.selects RX7 yX7_rowOf yX7_rowOf ∈ qT := qT_in (List.mem_of_getElem? (i := 412) (by decide +kernel)) (by decide +kernel)
theorem qw413 : Cond.code yX7_rowOf cX7_rowOf 2 (some (.array .int)) ∈ qT := qT_in (List.mem_of_getElem? (i := 413) (by decide +kernel)) (by decide +kernel)
theorem qw414 : Cond.methodLink RX7 38 yJ9_floorMod_7cf53 ∈ qT := qT_in (List.mem_of_getElem? (i := 414) (by decide +kernel)) (by decide +kernel)
theorem qw418 : Cond.methodLink RX3 16 yX3_wrapped ∈ qT := qT_in (List.mem_of_getElem? (i := 418) (by decide +kernel)) (by decide +kernel)
theorem qw437 : Cond.methodLink RX0 29 yX0_isFull ∈ qT := qT_in (List.mem_of_getElem? (i := 437) (by decide +kernel)) (by decide +kernel)
theorem qw438 : Cond.instanceMethod yX0_isFull ∈ qT := qT_in (List.mem_of_getElem? (i := 438) (by decide +kernel)) (by decide +kernel)
theorem qw439 : Cond.selects RX0 yX0_isFull yX0_isFull ∈ qT := qT_in (List.mem_of_getElem? (i := 439) (by decide +kernel)) (by decide +kernel)
theorem qw440 : Cond.code yX0_isFull cX0_isFull 1 (some .boolean) ∈ qT := qT_in (List.mem_of_getElem? (i := 440) (by decide +kernel)) (by decide +kernel)
theorem qw515 : Cond.static yX8_inRange ∈ qT := qT_in (List.mem_of_getElem? (i := 515) (by decide +kernel)) (by decide +kernel)
theorem qw516 : Cond.code yX8_inRange cX8_inRange 3 (some .boolean) ∈ qT := qT_in (List.mem_of_getElem? (i := 516) (by decide +kernel)) (by decide +kernel)
theorem qw561 : Cond.methodLink RX3 22 yX3_difference ∈ qT := qT_in (List.mem_of_getElem? (i := 561) (by decide +kernel)) (by decide +kernel)
theorem qw562 : Cond.static yX3_difference ∈ qT := qT_in (List.mem_of_getElem? (i := 562) (by decide +kernel)) (by decide +kernel)
theorem qw563 : Cond.code yX3_difference cX3_difference 2 (some .int) ∈ qT := qT_in (List.mem_of_getElem? (i := 563) (by decide +kernel)) (by decide +kernel)
theorem qw567 : Cond.methodLink RX3 26 yX3_bytesOf ∈ qT := qT_in (List.mem_of_getElem? (i := 567) (by decide +kernel)) (by decide +kernel)
theorem qw568 : Cond.static yX3_bytesOf ∈ qT := qT_in (List.mem_of_getElem? (i := 568) (by decide +kernel)) (by decide +kernel)
theorem qw569 : Cond.code yX3_bytesOf cX3_bytesOf 1 (some .int) ∈ qT := qT_in (List.mem_of_getElem? (i := 569) (by decide +kernel)) (by decide +kernel)
theorem qw586 : Cond.constantLong RX8 254 3061 ∈ qT := qT_in (List.mem_of_getElem? (i := 586) (by decide +kernel)) (by decide +kernel)
theorem qw588 : Cond.static yX8_mixed ∈ qT := qT_in (List.mem_of_getElem? (i := 588) (by decide +kernel)) (by decide +kernel)
theorem qw589 : Cond.code yX8_mixed cX8_mixed 4 (some .long) ∈ qT := qT_in (List.mem_of_getElem? (i := 589) (by decide +kernel)) (by decide +kernel)
theorem qw590 : Cond.constantLong RX8 272 31 ∈ qT := qT_in (List.mem_of_getElem? (i := 590) (by decide +kernel)) (by decide +kernel)
theorem qw615 : Cond.methodLink RX7 44 yX7_has ∈ qT := qT_in (List.mem_of_getElem? (i := 615) (by decide +kernel)) (by decide +kernel)
theorem qw616 : Cond.methodLink RX7 48 yX7_rowOf ∈ qT := qT_in (List.mem_of_getElem? (i := 616) (by decide +kernel)) (by decide +kernel)
theorem qw703 : Cond.constant RX8 271 (65535) ∈ qT := qT_in (List.mem_of_getElem? (i := 703) (by decide +kernel)) (by decide +kernel)
theorem qw903 : Cond.fieldLink RX9 7 "HeaderSqueezerModel" "s" "[I" ∈ qT := qT_in (List.mem_of_getElem? (i := 903) (by decide +kernel)) (by decide +kernel)
theorem qw904 : Cond.fieldLink RX9 13 "HeaderSqueezerModel" "past" "[I" ∈ qT := qT_in (List.mem_of_getElem? (i := 904) (by decide +kernel)) (by decide +kernel)
theorem qw905 : Cond.fieldLink RX9 16 "HeaderSqueezerModel" "aside" "[I" ∈ qT := qT_in (List.mem_of_getElem? (i := 905) (by decide +kernel)) (by decide +kernel)
theorem qw906 : Cond.fieldLink RX9 29 "HeaderSqueezerModel" "pasts" "I" ∈ qT := qT_in (List.mem_of_getElem? (i := 906) (by decide +kernel)) (by decide +kernel)
theorem qw907 : Cond.fieldLink RX9 19 "HeaderSqueezerModel" "text" "[I" ∈ qT := qT_in (List.mem_of_getElem? (i := 907) (by decide +kernel)) (by decide +kernel)
theorem qw908 : Cond.fieldLink RX9 168 "HeaderSqueezerModel" "typed" "I" ∈ qT := qT_in (List.mem_of_getElem? (i := 908) (by decide +kernel)) (by decide +kernel)
theorem qw909 : Cond.fieldLink RX9 25 "HeaderSqueezerModel" "thrown" "I" ∈ qT := qT_in (List.mem_of_getElem? (i := 909) (by decide +kernel)) (by decide +kernel)
theorem qw910 : Cond.fieldLink RX9 22 "HeaderSqueezerModel" "got" "[I" ∈ qT := qT_in (List.mem_of_getElem? (i := 910) (by decide +kernel)) (by decide +kernel)
theorem qw911 : Cond.fieldLink RX9 138 "HeaderSqueezerModel" "answer" "I" ∈ qT := qT_in (List.mem_of_getElem? (i := 911) (by decide +kernel)) (by decide +kernel)
theorem qw912 : Cond.fieldLink RX9 171 "HeaderSqueezerModel" "at" "I" ∈ qT := qT_in (List.mem_of_getElem? (i := 912) (by decide +kernel)) (by decide +kernel)
theorem qw913 : Cond.fieldLink RX9 174 "HeaderSqueezerModel" "letter" "I" ∈ qT := qT_in (List.mem_of_getElem? (i := 913) (by decide +kernel)) (by decide +kernel)
theorem qw914 : Cond.fieldLink RX9 177 "HeaderSqueezerModel" "number" "I" ∈ qT := qT_in (List.mem_of_getElem? (i := 914) (by decide +kernel)) (by decide +kernel)
theorem qw915 : Cond.fieldLink RX9 195 "HeaderSqueezerModel" "h" "J" ∈ qT := qT_in (List.mem_of_getElem? (i := 915) (by decide +kernel)) (by decide +kernel)
theorem qw951 : Cond.methodLink RX9 41 yX9_in ∈ qT := qT_in (List.mem_of_getElem? (i := 951) (by decide +kernel)) (by decide +kernel)
theorem qw952 : Cond.static yX9_in ∈ qT := qT_in (List.mem_of_getElem? (i := 952) (by decide +kernel)) (by decide +kernel)
theorem qw953 : Cond.code yX9_in cX9_in 3 (some .boolean) ∈ qT := qT_in (List.mem_of_getElem? (i := 953) (by decide +kernel)) (by decide +kernel)
theorem qw954 : Cond.methodLink RX9 45 yX9_fails ∈ qT := qT_in (List.mem_of_getElem? (i := 954) (by decide +kernel)) (by decide +kernel)
theorem qw956 : Cond.instanceMethod yX9_fails ∈ qT := qT_in (List.mem_of_getElem? (i := 956) (by decide +kernel)) (by decide +kernel)
theorem qw957 : Cond.code yX9_fails cX9_fails 2 (some .int) ∈ qT := qT_in (List.mem_of_getElem? (i := 957) (by decide +kernel)) (by decide +kernel)
theorem qw958 : Cond.methodLink RX9 48 yX9_greatest ∈ qT := qT_in (List.mem_of_getElem? (i := 958) (by decide +kernel)) (by decide +kernel)
theorem qw959 : Cond.static yX9_greatest ∈ qT := qT_in (List.mem_of_getElem? (i := 959) (by decide +kernel)) (by decide +kernel)
theorem qw960 : Cond.code yX9_greatest cX9_greatest 1 (some .int) ∈ qT := qT_in (List.mem_of_getElem? (i := 960) (by decide +kernel)) (by decide +kernel)
theorem qw961 : Cond.constant RX9 36 (65535) ∈ qT := qT_in (List.mem_of_getElem? (i := 961) (by decide +kernel)) (by decide +kernel)
theorem qw962 : Cond.methodLink RX9 51 yX9_hold ∈ qT := qT_in (List.mem_of_getElem? (i := 962) (by decide +kernel)) (by decide +kernel)
theorem qw964 : Cond.instanceMethod yX9_hold ∈ qT := qT_in (List.mem_of_getElem? (i := 964) (by decide +kernel)) (by decide +kernel)
theorem qw965 : Cond.code yX9_hold cX9_hold 2 none ∈ qT := qT_in (List.mem_of_getElem? (i := 965) (by decide +kernel)) (by decide +kernel)
theorem qw966 : Cond.methodLink RX9 54 yX9_ends ∈ qT := qT_in (List.mem_of_getElem? (i := 966) (by decide +kernel)) (by decide +kernel)
theorem qw968 : Cond.instanceMethod yX9_ends ∈ qT := qT_in (List.mem_of_getElem? (i := 968) (by decide +kernel)) (by decide +kernel)
theorem qw969 : Cond.code yX9_ends cX9_ends 3 (some .int) ∈ qT := qT_in (List.mem_of_getElem? (i := 969) (by decide +kernel)) (by decide +kernel)
theorem qw970 : Cond.methodLink RX9 32 yX9_tells ∈ qT := qT_in (List.mem_of_getElem? (i := 970) (by decide +kernel)) (by decide +kernel)
theorem qw972 : Cond.instanceMethod yX9_tells ∈ qT := qT_in (List.mem_of_getElem? (i := 972) (by decide +kernel)) (by decide +kernel)
theorem qw973 : Cond.code yX9_tells cX9_tells 2 (some .int) ∈ qT := qT_in (List.mem_of_getElem? (i := 973) (by decide +kernel)) (by decide +kernel)
theorem qw982 : Cond.methodLink RX9 57 yX9_isPolicy ∈ qT := qT_in (List.mem_of_getElem? (i := 982) (by decide +kernel)) (by decide +kernel)
theorem qw983 : Cond.static yX9_isPolicy ∈ qT := qT_in (List.mem_of_getElem? (i := 983) (by decide +kernel)) (by decide +kernel)
theorem qw984 : Cond.code yX9_isPolicy cX9_isPolicy 2 (some .boolean) ∈ qT := qT_in (List.mem_of_getElem? (i := 984) (by decide +kernel)) (by decide +kernel)
theorem qw989 : Cond.methodLink RX9 61 yX9_goesOn ∈ qT := qT_in (List.mem_of_getElem? (i := 989) (by decide +kernel)) (by decide +kernel)
theorem qw991 : Cond.instanceMethod yX9_goesOn ∈ qT := qT_in (List.mem_of_getElem? (i := 991) (by decide +kernel)) (by decide +kernel)
theorem qw992 : Cond.code yX9_goesOn cX9_goesOn 1 none ∈ qT := qT_in (List.mem_of_getElem? (i := 992) (by decide +kernel)) (by decide +kernel)
theorem qw993 : Cond.methodLink RX9 37 yX9_modulo ∈ qT := qT_in (List.mem_of_getElem? (i := 993) (by decide +kernel)) (by decide +kernel)
theorem qw994 : Cond.static yX9_modulo ∈ qT := qT_in (List.mem_of_getElem? (i := 994) (by decide +kernel)) (by decide +kernel)
theorem qw995 : Cond.code yX9_modulo cX9_modulo 1 (some .int) ∈ qT := qT_in (List.mem_of_getElem? (i := 995) (by decide +kernel)) (by decide +kernel)
theorem qw1000 : Cond.methodLink RX9 99 yX9_maySend ∈ qT := qT_in (List.mem_of_getElem? (i := 1000) (by decide +kernel)) (by decide +kernel)
theorem qw1002 : Cond.instanceMethod yX9_maySend ∈ qT := qT_in (List.mem_of_getElem? (i := 1002) (by decide +kernel)) (by decide +kernel)
theorem qw1003 : Cond.code yX9_maySend cX9_maySend 2 (some .boolean) ∈ qT := qT_in (List.mem_of_getElem? (i := 1003) (by decide +kernel)) (by decide +kernel)
theorem qw1004 : Cond.methodLink RX9 103 yX9_sends ∈ qT := qT_in (List.mem_of_getElem? (i := 1004) (by decide +kernel)) (by decide +kernel)
theorem qw1006 : Cond.instanceMethod yX9_sends ∈ qT := qT_in (List.mem_of_getElem? (i := 1006) (by decide +kernel)) (by decide +kernel)
theorem qw1007 : Cond.code yX9_sends cX9_sends 6 none ∈ qT := qT_in (List.mem_of_getElem? (i := 1007) (by decide +kernel)) (by decide +kernel)
theorem qw1008 : Cond.methodLink RX9 82 yX9_trusted ∈ qT := qT_in (List.mem_of_getElem? (i := 1008) (by decide +kernel)) (by decide +kernel)
theorem qw1010 : Cond.instanceMethod yX9_trusted ∈ qT := qT_in (List.mem_of_getElem? (i := 1010) (by decide +kernel)) (by decide +kernel)
theorem qw1011 : Cond.code yX9_trusted cX9_trusted 4 (some .int) ∈ qT := qT_in (List.mem_of_getElem? (i := 1011) (by decide +kernel)) (by decide +kernel)
theorem qw1012 : Cond.methodLink RX9 64 yX9_of ∈ qT := qT_in (List.mem_of_getElem? (i := 1012) (by decide +kernel)) (by decide +kernel)
theorem qw1014 : Cond.instanceMethod yX9_of ∈ qT := qT_in (List.mem_of_getElem? (i := 1014) (by decide +kernel)) (by decide +kernel)
theorem qw1015 : Cond.code yX9_of cX9_of 3 (some .int) ∈ qT := qT_in (List.mem_of_getElem? (i := 1015) (by decide +kernel)) (by decide +kernel)
theorem qw1016 : Cond.methodLink RX9 85 yX9_formFor ∈ qT := qT_in (List.mem_of_getElem? (i := 1016) (by decide +kernel)) (by decide +kernel)
theorem qw1018 : Cond.instanceMethod yX9_formFor ∈ qT := qT_in (List.mem_of_getElem? (i := 1018) (by decide +kernel)) (by decide +kernel)
theorem qw1019 : Cond.code yX9_formFor cX9_formFor 3 (some .int) ∈ qT := qT_in (List.mem_of_getElem? (i := 1019) (by decide +kernel)) (by decide +kernel)
theorem qw1020 : Cond.methodLink RX9 88 yX9_sizeOf ∈ qT := qT_in (List.mem_of_getElem? (i := 1020) (by decide +kernel)) (by decide +kernel)
theorem qw1022 : Cond.instanceMethod yX9_sizeOf ∈ qT := qT_in (List.mem_of_getElem? (i := 1022) (by decide +kernel)) (by decide +kernel)
theorem qw1023 : Cond.code yX9_sizeOf cX9_sizeOf 8 (some .int) ∈ qT := qT_in (List.mem_of_getElem? (i := 1023) (by decide +kernel)) (by decide +kernel)
theorem qw1024 : Cond.methodLink RX9 72 yX9_senderBase ∈ qT := qT_in (List.mem_of_getElem? (i := 1024) (by decide +kernel)) (by decide +kernel)
theorem qw1026 : Cond.instanceMethod yX9_senderBase ∈ qT := qT_in (List.mem_of_getElem? (i := 1026) (by decide +kernel)) (by decide +kernel)
theorem qw1027 : Cond.code yX9_senderBase cX9_senderBase 5 (some .int) ∈ qT := qT_in (List.mem_of_getElem? (i := 1027) (by decide +kernel)) (by decide +kernel)
theorem qw1028 : Cond.methodLink RX9 68 yX9_baseOf ∈ qT := qT_in (List.mem_of_getElem? (i := 1028) (by decide +kernel)) (by decide +kernel)
theorem qw1029 : Cond.static yX9_baseOf ∈ qT := qT_in (List.mem_of_getElem? (i := 1029) (by decide +kernel)) (by decide +kernel)
theorem qw1030 : Cond.code yX9_baseOf cX9_baseOf 5 (some .int) ∈ qT := qT_in (List.mem_of_getElem? (i := 1030) (by decide +kernel)) (by decide +kernel)
theorem qw1031 : Cond.methodLink RX9 76 yX9_difference ∈ qT := qT_in (List.mem_of_getElem? (i := 1031) (by decide +kernel)) (by decide +kernel)
theorem qw1032 : Cond.static yX9_difference ∈ qT := qT_in (List.mem_of_getElem? (i := 1032) (by decide +kernel)) (by decide +kernel)
theorem qw1033 : Cond.code yX9_difference cX9_difference 3 (some .int) ∈ qT := qT_in (List.mem_of_getElem? (i := 1033) (by decide +kernel)) (by decide +kernel)
theorem qw1034 : Cond.constant RX9 40 (65536) ∈ qT := qT_in (List.mem_of_getElem? (i := 1034) (by decide +kernel)) (by decide +kernel)
theorem qw1035 : Cond.methodLink RX9 79 yX9_bytesFor ∈ qT := qT_in (List.mem_of_getElem? (i := 1035) (by decide +kernel)) (by decide +kernel)
theorem qw1036 : Cond.static yX9_bytesFor ∈ qT := qT_in (List.mem_of_getElem? (i := 1036) (by decide +kernel)) (by decide +kernel)
theorem qw1037 : Cond.code yX9_bytesFor cX9_bytesFor 1 (some .int) ∈ qT := qT_in (List.mem_of_getElem? (i := 1037) (by decide +kernel)) (by decide +kernel)
theorem qw1038 : Cond.methodLink RX9 91 yX9_puts ∈ qT := qT_in (List.mem_of_getElem? (i := 1038) (by decide +kernel)) (by decide +kernel)
theorem qw1040 : Cond.instanceMethod yX9_puts ∈ qT := qT_in (List.mem_of_getElem? (i := 1040) (by decide +kernel)) (by decide +kernel)
theorem qw1041 : Cond.code yX9_puts cX9_puts 4 none ∈ qT := qT_in (List.mem_of_getElem? (i := 1041) (by decide +kernel)) (by decide +kernel)
theorem qw1042 : Cond.methodLink RX9 95 yX9_joins ∈ qT := qT_in (List.mem_of_getElem? (i := 1042) (by decide +kernel)) (by decide +kernel)
theorem qw1044 : Cond.instanceMethod yX9_joins ∈ qT := qT_in (List.mem_of_getElem? (i := 1044) (by decide +kernel)) (by decide +kernel)
theorem qw1045 : Cond.code yX9_joins cX9_joins 3 none ∈ qT := qT_in (List.mem_of_getElem? (i := 1045) (by decide +kernel)) (by decide +kernel)
theorem qw1066 : Cond.methodLink RX9 106 yX9_told ∈ qT := qT_in (List.mem_of_getElem? (i := 1066) (by decide +kernel)) (by decide +kernel)
theorem qw1068 : Cond.instanceMethod yX9_told ∈ qT := qT_in (List.mem_of_getElem? (i := 1068) (by decide +kernel)) (by decide +kernel)
theorem qw1069 : Cond.code yX9_told cX9_told 3 (some .int) ∈ qT := qT_in (List.mem_of_getElem? (i := 1069) (by decide +kernel)) (by decide +kernel)
theorem qw1074 : Cond.methodLink RX9 141 yX9_delivers ∈ qT := qT_in (List.mem_of_getElem? (i := 1074) (by decide +kernel)) (by decide +kernel)
theorem qw1076 : Cond.instanceMethod yX9_delivers ∈ qT := qT_in (List.mem_of_getElem? (i := 1076) (by decide +kernel)) (by decide +kernel)
theorem qw1077 : Cond.code yX9_delivers cX9_delivers 2 (some .int) ∈ qT := qT_in (List.mem_of_getElem? (i := 1077) (by decide +kernel)) (by decide +kernel)
theorem qw1078 : Cond.methodLink RX9 129 yX9_isIn ∈ qT := qT_in (List.mem_of_getElem? (i := 1078) (by decide +kernel)) (by decide +kernel)
theorem qw1080 : Cond.instanceMethod yX9_isIn ∈ qT := qT_in (List.mem_of_getElem? (i := 1080) (by decide +kernel)) (by decide +kernel)
theorem qw1081 : Cond.code yX9_isIn cX9_isIn 3 (some .boolean) ∈ qT := qT_in (List.mem_of_getElem? (i := 1081) (by decide +kernel)) (by decide +kernel)
theorem qw1082 : Cond.methodLink RX9 132 yX9_takes ∈ qT := qT_in (List.mem_of_getElem? (i := 1082) (by decide +kernel)) (by decide +kernel)
theorem qw1084 : Cond.instanceMethod yX9_takes ∈ qT := qT_in (List.mem_of_getElem? (i := 1084) (by decide +kernel)) (by decide +kernel)
theorem qw1085 : Cond.code yX9_takes cX9_takes 5 (some .int) ∈ qT := qT_in (List.mem_of_getElem? (i := 1085) (by decide +kernel)) (by decide +kernel)
theorem qw1086 : Cond.methodLink RX9 135 yX9_receives ∈ qT := qT_in (List.mem_of_getElem? (i := 1086) (by decide +kernel)) (by decide +kernel)
theorem qw1088 : Cond.instanceMethod yX9_receives ∈ qT := qT_in (List.mem_of_getElem? (i := 1088) (by decide +kernel)) (by decide +kernel)
theorem qw1089 : Cond.code yX9_receives cX9_receives 7 (some .int) ∈ qT := qT_in (List.mem_of_getElem? (i := 1089) (by decide +kernel)) (by decide +kernel)
theorem qw1090 : Cond.methodLink RX9 113 yX9_numberOf ∈ qT := qT_in (List.mem_of_getElem? (i := 1090) (by decide +kernel)) (by decide +kernel)
theorem qw1092 : Cond.instanceMethod yX9_numberOf ∈ qT := qT_in (List.mem_of_getElem? (i := 1092) (by decide +kernel)) (by decide +kernel)
theorem qw1093 : Cond.code yX9_numberOf cX9_numberOf 3 (some .int) ∈ qT := qT_in (List.mem_of_getElem? (i := 1093) (by decide +kernel)) (by decide +kernel)
theorem qw1094 : Cond.methodLink RX9 116 yX9_placeOf ∈ qT := qT_in (List.mem_of_getElem? (i := 1094) (by decide +kernel)) (by decide +kernel)
theorem qw1096 : Cond.instanceMethod yX9_placeOf ∈ qT := qT_in (List.mem_of_getElem? (i := 1096) (by decide +kernel)) (by decide +kernel)
theorem qw1097 : Cond.code yX9_placeOf cX9_placeOf 3 (some .int) ∈ qT := qT_in (List.mem_of_getElem? (i := 1097) (by decide +kernel)) (by decide +kernel)
theorem qw1098 : Cond.methodLink RX9 119 yX9_fails2 ∈ qT := qT_in (List.mem_of_getElem? (i := 1098) (by decide +kernel)) (by decide +kernel)
theorem qw1100 : Cond.instanceMethod yX9_fails2 ∈ qT := qT_in (List.mem_of_getElem? (i := 1100) (by decide +kernel)) (by decide +kernel)
theorem qw1101 : Cond.code yX9_fails2 cX9_fails2 1 (some .int) ∈ qT := qT_in (List.mem_of_getElem? (i := 1101) (by decide +kernel)) (by decide +kernel)
theorem qw1102 : Cond.methodLink RX9 123 yX9_decodes ∈ qT := qT_in (List.mem_of_getElem? (i := 1102) (by decide +kernel)) (by decide +kernel)
theorem qw1104 : Cond.instanceMethod yX9_decodes ∈ qT := qT_in (List.mem_of_getElem? (i := 1104) (by decide +kernel)) (by decide +kernel)
theorem qw1105 : Cond.code yX9_decodes cX9_decodes 10 none ∈ qT := qT_in (List.mem_of_getElem? (i := 1105) (by decide +kernel)) (by decide +kernel)
theorem qw1106 : Cond.methodLink RX9 126 yX9_keeps ∈ qT := qT_in (List.mem_of_getElem? (i := 1106) (by decide +kernel)) (by decide +kernel)
theorem qw1108 : Cond.instanceMethod yX9_keeps ∈ qT := qT_in (List.mem_of_getElem? (i := 1108) (by decide +kernel)) (by decide +kernel)
theorem qw1109 : Cond.code yX9_keeps cX9_keeps 4 none ∈ qT := qT_in (List.mem_of_getElem? (i := 1109) (by decide +kernel)) (by decide +kernel)
theorem qw1110 : Cond.methodLink RX9 109 yX9_drops ∈ qT := qT_in (List.mem_of_getElem? (i := 1110) (by decide +kernel)) (by decide +kernel)
theorem qw1112 : Cond.instanceMethod yX9_drops ∈ qT := qT_in (List.mem_of_getElem? (i := 1112) (by decide +kernel)) (by decide +kernel)
theorem qw1113 : Cond.code yX9_drops cX9_drops 3 none ∈ qT := qT_in (List.mem_of_getElem? (i := 1113) (by decide +kernel)) (by decide +kernel)
theorem qw1114 : Cond.methodLink RX9 144 yX9_done ∈ qT := qT_in (List.mem_of_getElem? (i := 1114) (by decide +kernel)) (by decide +kernel)
theorem qw1116 : Cond.instanceMethod yX9_done ∈ qT := qT_in (List.mem_of_getElem? (i := 1116) (by decide +kernel)) (by decide +kernel)
theorem qw1117 : Cond.code yX9_done cX9_done 2 (some .int) ∈ qT := qT_in (List.mem_of_getElem? (i := 1117) (by decide +kernel)) (by decide +kernel)
theorem qw1126 : Cond.methodLink RX9 147 yX9_loses ∈ qT := qT_in (List.mem_of_getElem? (i := 1126) (by decide +kernel)) (by decide +kernel)
theorem qw1128 : Cond.instanceMethod yX9_loses ∈ qT := qT_in (List.mem_of_getElem? (i := 1128) (by decide +kernel)) (by decide +kernel)
theorem qw1129 : Cond.code yX9_loses cX9_loses 3 (some .int) ∈ qT := qT_in (List.mem_of_getElem? (i := 1129) (by decide +kernel)) (by decide +kernel)
theorem qw1134 : Cond.methodLink RX9 150 yX9_copies ∈ qT := qT_in (List.mem_of_getElem? (i := 1134) (by decide +kernel)) (by decide +kernel)
theorem qw1136 : Cond.instanceMethod yX9_copies ∈ qT := qT_in (List.mem_of_getElem? (i := 1136) (by decide +kernel)) (by decide +kernel)
theorem qw1137 : Cond.code yX9_copies cX9_copies 2 (some .int) ∈ qT := qT_in (List.mem_of_getElem? (i := 1137) (by decide +kernel)) (by decide +kernel)
theorem qw1142 : Cond.methodLink RX9 153 yX9_returns ∈ qT := qT_in (List.mem_of_getElem? (i := 1142) (by decide +kernel)) (by decide +kernel)
theorem qw1144 : Cond.instanceMethod yX9_returns ∈ qT := qT_in (List.mem_of_getElem? (i := 1144) (by decide +kernel)) (by decide +kernel)
theorem qw1145 : Cond.code yX9_returns cX9_returns 2 (some .int) ∈ qT := qT_in (List.mem_of_getElem? (i := 1145) (by decide +kernel)) (by decide +kernel)
theorem qw1170 : Cond.methodLink RX9 156 yX9_recordOf ∈ qT := qT_in (List.mem_of_getElem? (i := 1170) (by decide +kernel)) (by decide +kernel)
theorem qw1172 : Cond.instanceMethod yX9_recordOf ∈ qT := qT_in (List.mem_of_getElem? (i := 1172) (by decide +kernel)) (by decide +kernel)
theorem qw1173 : Cond.code yX9_recordOf cX9_recordOf 4 (some .int) ∈ qT := qT_in (List.mem_of_getElem? (i := 1173) (by decide +kernel)) (by decide +kernel)
theorem qw1178 : Cond.methodLink RX9 159 yX9_keptMany ∈ qT := qT_in (List.mem_of_getElem? (i := 1178) (by decide +kernel)) (by decide +kernel)
theorem qw1180 : Cond.instanceMethod yX9_keptMany ∈ qT := qT_in (List.mem_of_getElem? (i := 1180) (by decide +kernel)) (by decide +kernel)
theorem qw1181 : Cond.code yX9_keptMany cX9_keptMany 3 (some .int) ∈ qT := qT_in (List.mem_of_getElem? (i := 1181) (by decide +kernel)) (by decide +kernel)
theorem qw1190 : Cond.methodLink RX9 162 yX9_counted ∈ qT := qT_in (List.mem_of_getElem? (i := 1190) (by decide +kernel)) (by decide +kernel)
theorem qw1192 : Cond.instanceMethod yX9_counted ∈ qT := qT_in (List.mem_of_getElem? (i := 1192) (by decide +kernel)) (by decide +kernel)
theorem qw1193 : Cond.code yX9_counted cX9_counted 2 (some .int) ∈ qT := qT_in (List.mem_of_getElem? (i := 1193) (by decide +kernel)) (by decide +kernel)
theorem qw1198 : Cond.methodLink RX9 165 yX9_spared ∈ qT := qT_in (List.mem_of_getElem? (i := 1198) (by decide +kernel)) (by decide +kernel)
theorem qw1200 : Cond.instanceMethod yX9_spared ∈ qT := qT_in (List.mem_of_getElem? (i := 1200) (by decide +kernel)) (by decide +kernel)
theorem qw1201 : Cond.code yX9_spared cX9_spared 1 (some .int) ∈ qT := qT_in (List.mem_of_getElem? (i := 1201) (by decide +kernel)) (by decide +kernel)
theorem qw1222 : Cond.methodLink RX9 183 yX9_isOrder ∈ qT := qT_in (List.mem_of_getElem? (i := 1222) (by decide +kernel)) (by decide +kernel)
theorem qw1224 : Cond.instanceMethod yX9_isOrder ∈ qT := qT_in (List.mem_of_getElem? (i := 1224) (by decide +kernel)) (by decide +kernel)
theorem qw1225 : Cond.code yX9_isOrder cX9_isOrder 4 (some .boolean) ∈ qT := qT_in (List.mem_of_getElem? (i := 1225) (by decide +kernel)) (by decide +kernel)
theorem qw1226 : Cond.methodLink RX9 180 yX9_digitHere ∈ qT := qT_in (List.mem_of_getElem? (i := 1226) (by decide +kernel)) (by decide +kernel)
theorem qw1228 : Cond.instanceMethod yX9_digitHere ∈ qT := qT_in (List.mem_of_getElem? (i := 1228) (by decide +kernel)) (by decide +kernel)
theorem qw1229 : Cond.code yX9_digitHere cX9_digitHere 1 (some .int) ∈ qT := qT_in (List.mem_of_getElem? (i := 1229) (by decide +kernel)) (by decide +kernel)
theorem qw1230 : Cond.methodLink RX9 187 yX9_isDone ∈ qT := qT_in (List.mem_of_getElem? (i := 1230) (by decide +kernel)) (by decide +kernel)
theorem qw1232 : Cond.instanceMethod yX9_isDone ∈ qT := qT_in (List.mem_of_getElem? (i := 1232) (by decide +kernel)) (by decide +kernel)
theorem qw1233 : Cond.code yX9_isDone cX9_isDone 1 (some .boolean) ∈ qT := qT_in (List.mem_of_getElem? (i := 1233) (by decide +kernel)) (by decide +kernel)
theorem qw1234 : Cond.methodLink RX9 190 yX9_restore ∈ qT := qT_in (List.mem_of_getElem? (i := 1234) (by decide +kernel)) (by decide +kernel)
theorem qw1236 : Cond.instanceMethod yX9_restore ∈ qT := qT_in (List.mem_of_getElem? (i := 1236) (by decide +kernel)) (by decide +kernel)
theorem qw1237 : Cond.code yX9_restore cX9_restore 2 none ∈ qT := qT_in (List.mem_of_getElem? (i := 1237) (by decide +kernel)) (by decide +kernel)
theorem qw1246 : Cond.constantLong RX9 202 3061 ∈ qT := qT_in (List.mem_of_getElem? (i := 1246) (by decide +kernel)) (by decide +kernel)
theorem qw1247 : Cond.methodLink RX9 199 yX9_mix ∈ qT := qT_in (List.mem_of_getElem? (i := 1247) (by decide +kernel)) (by decide +kernel)
theorem qw1249 : Cond.instanceMethod yX9_mix ∈ qT := qT_in (List.mem_of_getElem? (i := 1249) (by decide +kernel)) (by decide +kernel)
theorem qw1250 : Cond.code yX9_mix cX9_mix 2 none ∈ qT := qT_in (List.mem_of_getElem? (i := 1250) (by decide +kernel)) (by decide +kernel)
theorem qw1251 : Cond.constantLong RX9 193 31 ∈ qT := qT_in (List.mem_of_getElem? (i := 1251) (by decide +kernel)) (by decide +kernel)
theorem qw1252 : Cond.methodLink RX9 204 yX9_mixAll ∈ qT := qT_in (List.mem_of_getElem? (i := 1252) (by decide +kernel)) (by decide +kernel)
theorem qw1254 : Cond.instanceMethod yX9_mixAll ∈ qT := qT_in (List.mem_of_getElem? (i := 1254) (by decide +kernel)) (by decide +kernel)
theorem qw1255 : Cond.code yX9_mixAll cX9_mixAll 4 none ∈ qT := qT_in (List.mem_of_getElem? (i := 1255) (by decide +kernel)) (by decide +kernel)
theorem cb_m128 : (Int8.ofInt (-128)).toInt32 = (-128) := by decide +kernel
theorem cb_m10 : (Int8.ofInt (-10)).toInt32 = (-10) := by decide +kernel
theorem cb_6 : (Int8.ofInt (6)).toInt32 = 6 := by decide +kernel
theorem cb_7 : (Int8.ofInt (7)).toInt32 = 7 := by decide +kernel
theorem cb_8 : (Int8.ofInt (8)).toInt32 = 8 := by decide +kernel
theorem cb_9 : (Int8.ofInt (9)).toInt32 = 9 := by decide +kernel
theorem cb_10 : (Int8.ofInt (10)).toInt32 = 10 := by decide +kernel
theorem cb_11 : (Int8.ofInt (11)).toInt32 = 11 := by decide +kernel
theorem cb_12 : (Int8.ofInt (12)).toInt32 = 12 := by decide +kernel
theorem cb_15 : (Int8.ofInt (15)).toInt32 = 15 := by decide +kernel
theorem cb_16 : (Int8.ofInt (16)).toInt32 = 16 := by decide +kernel
theorem cb_20 : (Int8.ofInt (20)).toInt32 = 20 := by decide +kernel
theorem cb_31 : (Int8.ofInt (31)).toInt32 = 31 := by decide +kernel
theorem cb_48 : (Int8.ofInt (48)).toInt32 = 48 := by decide +kernel
theorem cb_52 : (Int8.ofInt (52)).toInt32 = 52 := by decide +kernel
theorem cb_53 : (Int8.ofInt (53)).toInt32 = 53 := by decide +kernel
theorem cb_54 : (Int8.ofInt (54)).toInt32 = 54 := by decide +kernel
theorem cb_55 : (Int8.ofInt (55)).toInt32 = 55 := by decide +kernel
theorem cb_56 : (Int8.ofInt (56)).toInt32 = 56 := by decide +kernel
theorem cb_57 : (Int8.ofInt (57)).toInt32 = 57 := by decide +kernel
theorem cb_58 : (Int8.ofInt (58)).toInt32 = 58 := by decide +kernel
theorem cb_59 : (Int8.ofInt (59)).toInt32 = 59 := by decide +kernel
theorem cb_60 : (Int8.ofInt (60)).toInt32 = 60 := by decide +kernel
theorem cb_61 : (Int8.ofInt (61)).toInt32 = 61 := by decide +kernel
theorem cb_62 : (Int8.ofInt (62)).toInt32 = 62 := by decide +kernel
theorem cb_63 : (Int8.ofInt (63)).toInt32 = 63 := by decide +kernel
theorem cb_64 : (Int8.ofInt (64)).toInt32 = 64 := by decide +kernel
theorem cb_65 : (Int8.ofInt (65)).toInt32 = 65 := by decide +kernel
theorem cb_66 : (Int8.ofInt (66)).toInt32 = 66 := by decide +kernel
theorem cb_97 : (Int8.ofInt (97)).toInt32 = 97 := by decide +kernel
theorem cb_99 : (Int8.ofInt (99)).toInt32 = 99 := by decide +kernel
theorem cb_100 : (Int8.ofInt (100)).toInt32 = 100 := by decide +kernel
theorem cb_108 : (Int8.ofInt (108)).toInt32 = 108 := by decide +kernel
theorem cb_110 : (Int8.ofInt (110)).toInt32 = 110 := by decide +kernel
theorem cb_115 : (Int8.ofInt (115)).toInt32 = 115 := by decide +kernel
theorem cb_120 : (Int8.ofInt (120)).toInt32 = 120 := by decide +kernel
theorem cb_127 : (Int8.ofInt (127)).toInt32 = 127 := by decide +kernel
theorem ci_m1 : Int32.ofInt (-1) = (-1) := by decide +kernel
theorem ci_0 : Int32.ofInt (0) = 0 := by decide +kernel
theorem ci_1 : Int32.ofInt (1) = 1 := by decide +kernel
theorem ci_2 : Int32.ofInt (2) = 2 := by decide +kernel
theorem ci_3 : Int32.ofInt (3) = 3 := by decide +kernel
theorem ci_4 : Int32.ofInt (4) = 4 := by decide +kernel
theorem ci_5 : Int32.ofInt (5) = 5 := by decide +kernel
theorem cs_m1000 : (Int16.ofInt (-1000)).toInt32 = (-1000) := by decide +kernel
theorem cs_255 : (Int16.ofInt (255)).toInt32 = 255 := by decide +kernel
theorem cs_500 : (Int16.ofInt (500)).toInt32 = 500 := by decide +kernel
theorem cs_514 : (Int16.ofInt (514)).toInt32 = 514 := by decide +kernel
theorem cs_999 : (Int16.ofInt (999)).toInt32 = 999 := by decide +kernel
theorem cs_4095 : (Int16.ofInt (4095)).toInt32 = 4095 := by decide +kernel
theorem cs_5514 : (Int16.ofInt (5514)).toInt32 = 5514 := by decide +kernel
theorem cs_16542 : (Int16.ofInt (16542)).toInt32 = 16542 := by decide +kernel
theorem cs_32767 : (Int16.ofInt (32767)).toInt32 = 32767 := by decide +kernel
theorem inqX0 : ∀ w ∈ wsX00, w ∈ qT := fun w hw => qT_in (inX0 w hw) (List.all_eq_true.mp (by decide +kernel : (wsX00).all goodWord = true) w hw)
theorem inqX1 : ∀ w ∈ wsX10, w ∈ qT := fun w hw => qT_in (inX1 w hw) (List.all_eq_true.mp (by decide +kernel : (wsX10).all goodWord = true) w hw)
theorem inqX2 : ∀ w ∈ wsX20, w ∈ qT := fun w hw => qT_in (inX2 w hw) (List.all_eq_true.mp (by decide +kernel : (wsX20).all goodWord = true) w hw)
theorem inqX3 : ∀ w ∈ wsX30, w ∈ qT := fun w hw => qT_in (inX3 w hw) (List.all_eq_true.mp (by decide +kernel : (wsX30).all goodWord = true) w hw)
theorem inqX4 : ∀ w ∈ wsX40, w ∈ qT := fun w hw => qT_in (inX4 w hw) (List.all_eq_true.mp (by decide +kernel : (wsX40).all goodWord = true) w hw)
theorem inqX5 : ∀ w ∈ wsX50, w ∈ qT := fun w hw => qT_in (inX5 w hw) (List.all_eq_true.mp (by decide +kernel : (wsX50).all goodWord = true) w hw)
theorem inqX6 : ∀ w ∈ wsX60, w ∈ qT := fun w hw => qT_in (inX6 w hw) (List.all_eq_true.mp (by decide +kernel : (wsX60).all goodWord = true) w hw)
theorem inqX7 : ∀ w ∈ wsX70, w ∈ qT := fun w hw => qT_in (inX7 w hw) (List.all_eq_true.mp (by decide +kernel : (wsX70).all goodWord = true) w hw)
theorem inqX8 : ∀ w ∈ wsX80, w ∈ qT := fun w hw => qT_in (inX8 w hw) (List.all_eq_true.mp (by decide +kernel : (wsX80).all goodWord = true) w hw)
theorem inqX9 : ∀ w ∈ wsX90, w ∈ qT := fun w hw => qT_in (inX9 w hw) (List.all_eq_true.mp (by decide +kernel : (wsX90).all goodWord = true) w hw)
def fX0 : Nat → Option (Nat × Nat × FieldType × Bool) := fun n => match n with
  | 9 => some (0, 0, .array .int, true)
  | 15 => some (0, 1, .int, false)
  | _ => none
def kX0 : Nat → Option Int32 := fun _ => none
def jX0 : Nat → Option Int64 := fun _ => none
def nX0 : Nat → Option (Nat × Nat × List Value) := fun _ => none
def fX1 : Nat → Option (Nat × Nat × FieldType × Bool) := fun n => match n with
  | 11 => some (1, 0, .array (.array .int), true)
  | 16 => some (1, 1, .array (.array .int), true)
  | 19 => some (1, 2, .array .int, true)
  | 23 => some (1, 3, .array .int, true)
  | 26 => some (1, 4, .array .int, true)
  | _ => none
def kX1 : Nat → Option Int32 := fun _ => none
def jX1 : Nat → Option Int64 := fun _ => none
def nX1 : Nat → Option (Nat × Nat × List Value) := fun n => match n with
  | 9 => some (99, 0, [])
  | _ => none
def fX2 : Nat → Option (Nat × Nat × FieldType × Bool) := fun n => match n with
  | 9 => some (2, 1, .int, false)
  | 15 => some (2, 2, .int, false)
  | 18 => some (2, 3, .int, false)
  | 21 => some (2, 4, .int, false)
  | 24 => some (2, 5, .int, false)
  | 27 => some (2, 6, .int, false)
  | 30 => some (2, 7, .int, false)
  | 33 => some (2, 8, .array .int, true)
  | 40 => some (2, 9, .object "HeaderSqueezer$Window", true)
  | 44 => some (2, 10, .array .int, true)
  | 47 => some (2, 0, .object "HeaderSqueezer$PacketLog", true)
  | 70 => some (1, 2, .float, false)
  | 98 => some (1, 0, .float, false)
  | 112 => some (1, 3, .float, false)
  | 123 => some (1, 1, .float, false)
  | _ => none
def kX2 : Nat → Option Int32 := fun _ => none
def jX2 : Nat → Option Int64 := fun _ => none
def nX2 : Nat → Option (Nat × Nat × List Value) := fun n => match n with
  | 37 => some (6, 2, [.null, .null])
  | _ => none
def fX3 : Nat → Option (Nat × Nat × FieldType × Bool) := fun _ => none
def kX3 : Nat → Option Int32 := fun n => match n with
  | 9 => some 65535
  | _ => none
def jX3 : Nat → Option Int64 := fun _ => none
def nX3 : Nat → Option (Nat × Nat × List Value) := fun _ => none
def fX4 : Nat → Option (Nat × Nat × FieldType × Bool) := fun n => match n with
  | 9 => some (3, 0, .array .int, true)
  | 15 => some (3, 1, .int, false)
  | 19 => some (3, 2, .array .int, true)
  | 22 => some (3, 3, .array .int, true)
  | 25 => some (3, 4, .int, false)
  | _ => none
def kX4 : Nat → Option Int32 := fun _ => none
def jX4 : Nat → Option Int64 := fun _ => none
def nX4 : Nat → Option (Nat × Nat × List Value) := fun _ => none
def fX5 : Nat → Option (Nat × Nat × FieldType × Bool) := fun n => match n with
  | 9 => some (4, 1, .array .int, true)
  | 15 => some (4, 2, .int, false)
  | 19 => some (4, 3, .int, false)
  | 22 => some (4, 4, .boolean, false)
  | 26 => some (4, 5, .int, false)
  | 29 => some (4, 6, .int, false)
  | 32 => some (4, 7, .int, false)
  | 35 => some (4, 8, .array .int, true)
  | 38 => some (4, 9, .array .int, true)
  | 41 => some (4, 10, .array .int, true)
  | 44 => some (4, 0, .object "HeaderSqueezer$PacketLog", true)
  | 73 => some (1, 0, .float, false)
  | 97 => some (1, 1, .float, false)
  | 100 => some (1, 2, .float, false)
  | 103 => some (1, 3, .float, false)
  | 106 => some (1, 4, .float, false)
  | _ => none
def kX5 : Nat → Option Int32 := fun _ => none
def jX5 : Nat → Option Int64 := fun _ => none
def nX5 : Nat → Option (Nat × Nat × List Value) := fun _ => none
def fX6 : Nat → Option (Nat × Nat × FieldType × Bool) := fun n => match n with
  | 12 => some (5, 2, .object "HeaderSqueezer$Link", true)
  | 18 => some (5, 3, .object "HeaderSqueezer$Link", true)
  | 26 => some (5, 0, .object "HeaderSqueezer$Sender", true)
  | 33 => some (5, 1, .object "HeaderSqueezer$Receiver", true)
  | 47 => some (4, 5, .int, false)
  | 51 => some (0, 1, .int, false)
  | 76 => some (2, 8, .float, false)
  | 80 => some (2, 6, .int, false)
  | 83 => some (4, 6, .int, false)
  | 99 => some (0, 0, .float, false)
  | _ => none
def kX6 : Nat → Option Int32 := fun _ => none
def jX6 : Nat → Option Int64 := fun _ => none
def nX6 : Nat → Option (Nat × Nat × List Value) := fun n => match n with
  | 9 => some (0, 2, [.null, .int 0])
  | 21 => some (4, 11, [.null, .null, .int 0, .int 0, .int 0, .int 0, .int 0, .int 0, .null, .null, .null])
  | 30 => some (2, 11, [.null, .int 0, .int 0, .int 0, .int 0, .int 0, .int 0, .int 0, .null, .null, .null])
  | _ => none
def fX7 : Nat → Option (Nat × Nat × FieldType × Bool) := fun n => match n with
  | 9 => some (6, 0, .array .int, true)
  | 17 => some (6, 1, .array (.array .int), true)
  | _ => none
def kX7 : Nat → Option Int32 := fun _ => none
def jX7 : Nat → Option Int64 := fun _ => none
def nX7 : Nat → Option (Nat × Nat × List Value) := fun n => match n with
  | 15 => some (99, 0, [])
  | _ => none
def fX8 : Nat → Option (Nat × Nat × FieldType × Bool) := fun n => match n with
  | 15 => some (7, 0, .object "HeaderSqueezer$State", true)
  | 21 => some (7, 1, .array (.object "HeaderSqueezer$State"), true)
  | 28 => some (7, 4, .object "HeaderSqueezer$Script", true)
  | 55 => some (5, 0, .float, false)
  | 59 => some (4, 1, .float, false)
  | 69 => some (4, 2, .int, false)
  | 73 => some (4, 3, .int, false)
  | 96 => some (5, 2, .float, false)
  | 100 => some (0, 1, .int, false)
  | 115 => some (4, 5, .int, false)
  | 142 => some (0, 0, .float, false)
  | 149 => some (5, 3, .float, false)
  | 165 => some (5, 1, .float, false)
  | 169 => some (2, 1, .int, false)
  | 174 => some (2, 2, .int, false)
  | 177 => some (2, 3, .int, false)
  | 180 => some (2, 4, .int, false)
  | 185 => some (2, 9, .float, false)
  | 208 => some (2, 7, .int, false)
  | 211 => some (4, 7, .int, false)
  | 214 => some (3, 1, .int, false)
  | 217 => some (3, 0, .float, false)
  | 230 => some (3, 4, .int, false)
  | 233 => some (3, 2, .float, false)
  | 236 => some (3, 3, .float, false)
  | 246 => some (7, 3, .int, false)
  | 251 => some (7, 2, .int, false)
  | _ => none
def kX8 : Nat → Option Int32 := fun n => match n with
  | 271 => some 65535
  | _ => none
def jX8 : Nat → Option Int64 := fun n => match n with
  | 254 => some 3061
  | 272 => some 31
  | _ => none
def nX8 : Nat → Option (Nat × Nat × List Value) := fun n => match n with
  | 7 => some (1, 5, [.null, .null, .null, .null, .null])
  | 10 => some (5, 4, [.null, .null, .null, .null])
  | 25 => some (3, 5, [.null, .int 0, .null, .null, .int 0])
  | _ => none
def fX9 : Nat → Option (Nat × Nat × FieldType × Bool) := fun n => match n with
  | 7 => some (8, 0, .array .int, true)
  | 13 => some (8, 1, .array .int, true)
  | 16 => some (8, 2, .array .int, true)
  | 19 => some (8, 4, .array .int, true)
  | 22 => some (8, 7, .array .int, true)
  | 25 => some (8, 6, .int, false)
  | 29 => some (8, 3, .int, false)
  | 138 => some (8, 8, .int, false)
  | 168 => some (8, 5, .int, false)
  | 171 => some (8, 9, .int, false)
  | 174 => some (8, 10, .int, false)
  | 177 => some (8, 11, .int, false)
  | 195 => some (8, 12, .long, false)
  | _ => none
def kX9 : Nat → Option Int32 := fun n => match n with
  | 36 => some 65535
  | 40 => some 65536
  | _ => none
def jX9 : Nat → Option Int64 := fun n => match n with
  | 193 => some 31
  | 202 => some 3061
  | _ => none
def nX9 : Nat → Option (Nat × Nat × List Value) := fun _ => none
theorem tabX0 : qTab RX0 fX0 kX0 jX0 nX0 := by
  refine ⟨fun idx ci j ty fin h => ?_, fun n v h => ?_, fun n v h => ?_, fun idx ci N t h => ?_⟩
  · unfold fX0 at h
    split at h
    · cases h
      exact ⟨RX0, TX0, 2, tyX0, rfl, by decide, qw124, inqX0, tyX0_ok, nmX0, Or.inr ⟨rfl, rfl, fun _ => rfl⟩⟩
    · cases h
      exact ⟨RX0, TX0, 2, tyX0, rfl, by decide, qw127, inqX0, tyX0_ok, nmX0, Or.inr ⟨rfl, rfl, fun _ => rfl⟩⟩
    · cases h
  · cases h
  · cases h
  · cases h
theorem tabX1 : qTab RX1 fX1 kX1 jX1 nX1 := by
  refine ⟨fun idx ci j ty fin h => ?_, fun n v h => ?_, fun n v h => ?_, fun idx ci N t h => ?_⟩
  · unfold fX1 at h
    split at h
    · cases h
      exact ⟨RX1, TX1, 5, tyX1, rfl, by decide, qw86, inqX1, tyX1_ok, nmX1, Or.inr ⟨rfl, rfl, fun _ => rfl⟩⟩
    · cases h
      exact ⟨RX1, TX1, 5, tyX1, rfl, by decide, qw89, inqX1, tyX1_ok, nmX1, Or.inr ⟨rfl, rfl, fun _ => rfl⟩⟩
    · cases h
      exact ⟨RX1, TX1, 5, tyX1, rfl, by decide, qw92, inqX1, tyX1_ok, nmX1, Or.inr ⟨rfl, rfl, fun _ => rfl⟩⟩
    · cases h
      exact ⟨RX1, TX1, 5, tyX1, rfl, by decide, qw95, inqX1, tyX1_ok, nmX1, Or.inr ⟨rfl, rfl, fun _ => rfl⟩⟩
    · cases h
      exact ⟨RX1, TX1, 5, tyX1, rfl, by decide, qw98, inqX1, tyX1_ok, nmX1, Or.inr ⟨rfl, rfl, fun _ => rfl⟩⟩
    · cases h
  · cases h
  · cases h
  · unfold nX1 at h
    split at h
    · cases h
      exact Or.inl ⟨rfl, qw84⟩
    · cases h
theorem tabX2 : qTab RX2 fX2 kX2 jX2 nX2 := by
  refine ⟨fun idx ci j ty fin h => ?_, fun n v h => ?_, fun n v h => ?_, fun idx ci N t h => ?_⟩
  · unfold fX2 at h
    split at h
    · cases h
      exact ⟨RX2, TX2, 11, tyX2, rfl, by decide, qw206, inqX2, tyX2_ok, nmX2, Or.inr ⟨rfl, rfl, fun _ => rfl⟩⟩
    · cases h
      exact ⟨RX2, TX2, 11, tyX2, rfl, by decide, qw208, inqX2, tyX2_ok, nmX2, Or.inr ⟨rfl, rfl, fun _ => rfl⟩⟩
    · cases h
      exact ⟨RX2, TX2, 11, tyX2, rfl, by decide, qw210, inqX2, tyX2_ok, nmX2, Or.inr ⟨rfl, rfl, fun _ => rfl⟩⟩
    · cases h
      exact ⟨RX2, TX2, 11, tyX2, rfl, by decide, qw212, inqX2, tyX2_ok, nmX2, Or.inr ⟨rfl, rfl, fun _ => rfl⟩⟩
    · cases h
      exact ⟨RX2, TX2, 11, tyX2, rfl, by decide, qw214, inqX2, tyX2_ok, nmX2, Or.inr ⟨rfl, rfl, fun _ => rfl⟩⟩
    · cases h
      exact ⟨RX2, TX2, 11, tyX2, rfl, by decide, qw215, inqX2, tyX2_ok, nmX2, Or.inr ⟨rfl, rfl, fun _ => rfl⟩⟩
    · cases h
      exact ⟨RX2, TX2, 11, tyX2, rfl, by decide, qw217, inqX2, tyX2_ok, nmX2, Or.inr ⟨rfl, rfl, fun _ => rfl⟩⟩
    · cases h
      exact ⟨RX2, TX2, 11, tyX2, rfl, by decide, qw219, inqX2, tyX2_ok, nmX2, Or.inr ⟨rfl, rfl, fun _ => rfl⟩⟩
    · cases h
      exact ⟨RX2, TX2, 11, tyX2, rfl, by decide, qw221, inqX2, tyX2_ok, nmX2, Or.inr ⟨rfl, rfl, fun _ => rfl⟩⟩
    · cases h
      exact ⟨RX2, TX2, 11, tyX2, rfl, by decide, qw223, inqX2, tyX2_ok, nmX2, Or.inr ⟨rfl, rfl, fun _ => rfl⟩⟩
    · cases h
      exact ⟨RX2, TX2, 11, tyX2, rfl, by decide, qw205, inqX2, tyX2_ok, nmX2, Or.inr ⟨rfl, rfl, fun _ => rfl⟩⟩
    · cases h
      exact ⟨RX1, TX1, 5, tyX1, rfl, by decide, qw93, inqX1, tyX1_ok, nmX1, Or.inl rfl⟩
    · cases h
      exact ⟨RX1, TX1, 5, tyX1, rfl, by decide, qw87, inqX1, tyX1_ok, nmX1, Or.inl rfl⟩
    · cases h
      exact ⟨RX1, TX1, 5, tyX1, rfl, by decide, qw96, inqX1, tyX1_ok, nmX1, Or.inl rfl⟩
    · cases h
      exact ⟨RX1, TX1, 5, tyX1, rfl, by decide, qw90, inqX1, tyX1_ok, nmX1, Or.inl rfl⟩
    · cases h
  · cases h
  · cases h
  · unfold nX2 at h
    split at h
    · cases h
      exact Or.inr ⟨RX7, TX7, tyX7, rfl, qw188, qw189, qw57, inqX7, tyX7_ok, rfl⟩
    · cases h
theorem tabX3 : qTab RX3 fX3 kX3 jX3 nX3 := by
  refine ⟨fun idx ci j ty fin h => ?_, fun n v h => ?_, fun n v h => ?_, fun idx ci N t h => ?_⟩
  · cases h
  · unfold kX3 at h
    split at h
    · cases h
      exact qw365
    · cases h
  · cases h
  · cases h
theorem tabX4 : qTab RX4 fX4 kX4 jX4 nX4 := by
  refine ⟨fun idx ci j ty fin h => ?_, fun n v h => ?_, fun n v h => ?_, fun idx ci N t h => ?_⟩
  · unfold fX4 at h
    split at h
    · cases h
      exact ⟨RX4, TX4, 5, tyX4, rfl, by decide, qw271, inqX4, tyX4_ok, nmX4, Or.inr ⟨rfl, rfl, fun _ => rfl⟩⟩
    · cases h
      exact ⟨RX4, TX4, 5, tyX4, rfl, by decide, qw273, inqX4, tyX4_ok, nmX4, Or.inr ⟨rfl, rfl, fun _ => rfl⟩⟩
    · cases h
      exact ⟨RX4, TX4, 5, tyX4, rfl, by decide, qw275, inqX4, tyX4_ok, nmX4, Or.inr ⟨rfl, rfl, fun _ => rfl⟩⟩
    · cases h
      exact ⟨RX4, TX4, 5, tyX4, rfl, by decide, qw277, inqX4, tyX4_ok, nmX4, Or.inr ⟨rfl, rfl, fun _ => rfl⟩⟩
    · cases h
      exact ⟨RX4, TX4, 5, tyX4, rfl, by decide, qw279, inqX4, tyX4_ok, nmX4, Or.inr ⟨rfl, rfl, fun _ => rfl⟩⟩
    · cases h
  · cases h
  · cases h
  · cases h
theorem tabX5 : qTab RX5 fX5 kX5 jX5 nX5 := by
  refine ⟨fun idx ci j ty fin h => ?_, fun n v h => ?_, fun n v h => ?_, fun idx ci N t h => ?_⟩
  · unfold fX5 at h
    split at h
    · cases h
      exact ⟨RX5, TX5, 11, tyX5, rfl, by decide, qw142, inqX5, tyX5_ok, nmX5, Or.inr ⟨rfl, rfl, fun _ => rfl⟩⟩
    · cases h
      exact ⟨RX5, TX5, 11, tyX5, rfl, by decide, qw144, inqX5, tyX5_ok, nmX5, Or.inr ⟨rfl, rfl, fun _ => rfl⟩⟩
    · cases h
      exact ⟨RX5, TX5, 11, tyX5, rfl, by decide, qw146, inqX5, tyX5_ok, nmX5, Or.inr ⟨rfl, rfl, fun _ => rfl⟩⟩
    · cases h
      exact ⟨RX5, TX5, 11, tyX5, rfl, by decide, qw148, inqX5, tyX5_ok, nmX5, Or.inr ⟨rfl, rfl, fun _ => rfl⟩⟩
    · cases h
      exact ⟨RX5, TX5, 11, tyX5, rfl, by decide, qw149, inqX5, tyX5_ok, nmX5, Or.inr ⟨rfl, rfl, fun _ => rfl⟩⟩
    · cases h
      exact ⟨RX5, TX5, 11, tyX5, rfl, by decide, qw152, inqX5, tyX5_ok, nmX5, Or.inr ⟨rfl, rfl, fun _ => rfl⟩⟩
    · cases h
      exact ⟨RX5, TX5, 11, tyX5, rfl, by decide, qw154, inqX5, tyX5_ok, nmX5, Or.inr ⟨rfl, rfl, fun _ => rfl⟩⟩
    · cases h
      exact ⟨RX5, TX5, 11, tyX5, rfl, by decide, qw156, inqX5, tyX5_ok, nmX5, Or.inr ⟨rfl, rfl, fun _ => rfl⟩⟩
    · cases h
      exact ⟨RX5, TX5, 11, tyX5, rfl, by decide, qw157, inqX5, tyX5_ok, nmX5, Or.inr ⟨rfl, rfl, fun _ => rfl⟩⟩
    · cases h
      exact ⟨RX5, TX5, 11, tyX5, rfl, by decide, qw158, inqX5, tyX5_ok, nmX5, Or.inr ⟨rfl, rfl, fun _ => rfl⟩⟩
    · cases h
      exact ⟨RX5, TX5, 11, tyX5, rfl, by decide, qw141, inqX5, tyX5_ok, nmX5, Or.inr ⟨rfl, rfl, fun _ => rfl⟩⟩
    · cases h
      exact ⟨RX1, TX1, 5, tyX1, rfl, by decide, qw88, inqX1, tyX1_ok, nmX1, Or.inl rfl⟩
    · cases h
      exact ⟨RX1, TX1, 5, tyX1, rfl, by decide, qw91, inqX1, tyX1_ok, nmX1, Or.inl rfl⟩
    · cases h
      exact ⟨RX1, TX1, 5, tyX1, rfl, by decide, qw94, inqX1, tyX1_ok, nmX1, Or.inl rfl⟩
    · cases h
      exact ⟨RX1, TX1, 5, tyX1, rfl, by decide, qw97, inqX1, tyX1_ok, nmX1, Or.inl rfl⟩
    · cases h
      exact ⟨RX1, TX1, 5, tyX1, rfl, by decide, qw99, inqX1, tyX1_ok, nmX1, Or.inl rfl⟩
    · cases h
  · cases h
  · cases h
  · cases h
theorem tabX6 : qTab RX6 fX6 kX6 jX6 nX6 := by
  refine ⟨fun idx ci j ty fin h => ?_, fun n v h => ?_, fun n v h => ?_, fun idx ci N t h => ?_⟩
  · unfold fX6 at h
    split at h
    · cases h
      exact ⟨RX6, TX6, 4, tyX6, rfl, by decide, qw251, inqX6, tyX6_ok, nmX6, Or.inr ⟨rfl, rfl, fun _ => rfl⟩⟩
    · cases h
      exact ⟨RX6, TX6, 4, tyX6, rfl, by decide, qw253, inqX6, tyX6_ok, nmX6, Or.inr ⟨rfl, rfl, fun _ => rfl⟩⟩
    · cases h
      exact ⟨RX6, TX6, 4, tyX6, rfl, by decide, qw247, inqX6, tyX6_ok, nmX6, Or.inr ⟨rfl, rfl, fun _ => rfl⟩⟩
    · cases h
      exact ⟨RX6, TX6, 4, tyX6, rfl, by decide, qw249, inqX6, tyX6_ok, nmX6, Or.inr ⟨rfl, rfl, fun _ => rfl⟩⟩
    · cases h
      exact ⟨RX5, TX5, 11, tyX5, rfl, by decide, qw150, inqX5, tyX5_ok, nmX5, Or.inr ⟨rfl, rfl, fun h => by cases h⟩⟩
    · cases h
      exact ⟨RX0, TX0, 2, tyX0, rfl, by decide, qw128, inqX0, tyX0_ok, nmX0, Or.inr ⟨rfl, rfl, fun h => by cases h⟩⟩
    · cases h
      exact ⟨RX2, TX2, 11, tyX2, rfl, by decide, qw220, inqX2, tyX2_ok, nmX2, Or.inl rfl⟩
    · cases h
      exact ⟨RX2, TX2, 11, tyX2, rfl, by decide, qw216, inqX2, tyX2_ok, nmX2, Or.inr ⟨rfl, rfl, fun h => by cases h⟩⟩
    · cases h
      exact ⟨RX5, TX5, 11, tyX5, rfl, by decide, qw153, inqX5, tyX5_ok, nmX5, Or.inr ⟨rfl, rfl, fun h => by cases h⟩⟩
    · cases h
      exact ⟨RX0, TX0, 2, tyX0, rfl, by decide, qw125, inqX0, tyX0_ok, nmX0, Or.inl rfl⟩
    · cases h
  · cases h
  · cases h
  · unfold nX6 at h
    split at h
    · cases h
      exact Or.inr ⟨RX0, TX0, tyX0, rfl, qw118, qw119, qw54, inqX0, tyX0_ok, rfl⟩
    · cases h
      exact Or.inr ⟨RX5, TX5, tyX5, rfl, qw135, qw136, qw55, inqX5, tyX5_ok, rfl⟩
    · cases h
      exact Or.inr ⟨RX2, TX2, tyX2, rfl, qw182, qw183, qw56, inqX2, tyX2_ok, rfl⟩
    · cases h
theorem tabX7 : qTab RX7 fX7 kX7 jX7 nX7 := by
  refine ⟨fun idx ci j ty fin h => ?_, fun n v h => ?_, fun n v h => ?_, fun idx ci N t h => ?_⟩
  · unfold fX7 at h
    split at h
    · cases h
      exact ⟨RX7, TX7, 2, tyX7, rfl, by decide, qw198, inqX7, tyX7_ok, nmX7, Or.inr ⟨rfl, rfl, fun _ => rfl⟩⟩
    · cases h
      exact ⟨RX7, TX7, 2, tyX7, rfl, by decide, qw199, inqX7, tyX7_ok, nmX7, Or.inr ⟨rfl, rfl, fun _ => rfl⟩⟩
    · cases h
  · cases h
  · cases h
  · unfold nX7 at h
    split at h
    · cases h
      exact Or.inl ⟨rfl, qw194⟩
    · cases h
theorem tabX8 : qTab RX8 fX8 kX8 jX8 nX8 := by
  refine ⟨fun idx ci j ty fin h => ?_, fun n v h => ?_, fun n v h => ?_, fun idx ci N t h => ?_⟩
  · unfold fX8 at h
    split at h
    · cases h
      exact ⟨RX8, TX8, 5, tyX8, rfl, by decide, qw292, inqX8, tyX8_ok, nmX8, Or.inr ⟨rfl, rfl, fun _ => rfl⟩⟩
    · cases h
      exact ⟨RX8, TX8, 5, tyX8, rfl, by decide, qw293, inqX8, tyX8_ok, nmX8, Or.inr ⟨rfl, rfl, fun _ => rfl⟩⟩
    · cases h
      exact ⟨RX8, TX8, 5, tyX8, rfl, by decide, qw296, inqX8, tyX8_ok, nmX8, Or.inr ⟨rfl, rfl, fun _ => rfl⟩⟩
    · cases h
      exact ⟨RX6, TX6, 4, tyX6, rfl, by decide, qw248, inqX6, tyX6_ok, nmX6, Or.inl rfl⟩
    · cases h
      exact ⟨RX5, TX5, 11, tyX5, rfl, by decide, qw143, inqX5, tyX5_ok, nmX5, Or.inl rfl⟩
    · cases h
      exact ⟨RX5, TX5, 11, tyX5, rfl, by decide, qw145, inqX5, tyX5_ok, nmX5, Or.inr ⟨rfl, rfl, fun h => by cases h⟩⟩
    · cases h
      exact ⟨RX5, TX5, 11, tyX5, rfl, by decide, qw147, inqX5, tyX5_ok, nmX5, Or.inr ⟨rfl, rfl, fun h => by cases h⟩⟩
    · cases h
      exact ⟨RX6, TX6, 4, tyX6, rfl, by decide, qw252, inqX6, tyX6_ok, nmX6, Or.inl rfl⟩
    · cases h
      exact ⟨RX0, TX0, 2, tyX0, rfl, by decide, qw129, inqX0, tyX0_ok, nmX0, Or.inr ⟨rfl, rfl, fun h => by cases h⟩⟩
    · cases h
      exact ⟨RX5, TX5, 11, tyX5, rfl, by decide, qw151, inqX5, tyX5_ok, nmX5, Or.inr ⟨rfl, rfl, fun h => by cases h⟩⟩
    · cases h
      exact ⟨RX0, TX0, 2, tyX0, rfl, by decide, qw126, inqX0, tyX0_ok, nmX0, Or.inl rfl⟩
    · cases h
      exact ⟨RX6, TX6, 4, tyX6, rfl, by decide, qw254, inqX6, tyX6_ok, nmX6, Or.inl rfl⟩
    · cases h
      exact ⟨RX6, TX6, 4, tyX6, rfl, by decide, qw250, inqX6, tyX6_ok, nmX6, Or.inl rfl⟩
    · cases h
      exact ⟨RX2, TX2, 11, tyX2, rfl, by decide, qw207, inqX2, tyX2_ok, nmX2, Or.inr ⟨rfl, rfl, fun h => by cases h⟩⟩
    · cases h
      exact ⟨RX2, TX2, 11, tyX2, rfl, by decide, qw209, inqX2, tyX2_ok, nmX2, Or.inr ⟨rfl, rfl, fun h => by cases h⟩⟩
    · cases h
      exact ⟨RX2, TX2, 11, tyX2, rfl, by decide, qw211, inqX2, tyX2_ok, nmX2, Or.inr ⟨rfl, rfl, fun h => by cases h⟩⟩
    · cases h
      exact ⟨RX2, TX2, 11, tyX2, rfl, by decide, qw213, inqX2, tyX2_ok, nmX2, Or.inr ⟨rfl, rfl, fun h => by cases h⟩⟩
    · cases h
      exact ⟨RX2, TX2, 11, tyX2, rfl, by decide, qw222, inqX2, tyX2_ok, nmX2, Or.inl rfl⟩
    · cases h
      exact ⟨RX2, TX2, 11, tyX2, rfl, by decide, qw218, inqX2, tyX2_ok, nmX2, Or.inr ⟨rfl, rfl, fun h => by cases h⟩⟩
    · cases h
      exact ⟨RX5, TX5, 11, tyX5, rfl, by decide, qw155, inqX5, tyX5_ok, nmX5, Or.inr ⟨rfl, rfl, fun h => by cases h⟩⟩
    · cases h
      exact ⟨RX4, TX4, 5, tyX4, rfl, by decide, qw274, inqX4, tyX4_ok, nmX4, Or.inr ⟨rfl, rfl, fun h => by cases h⟩⟩
    · cases h
      exact ⟨RX4, TX4, 5, tyX4, rfl, by decide, qw272, inqX4, tyX4_ok, nmX4, Or.inl rfl⟩
    · cases h
      exact ⟨RX4, TX4, 5, tyX4, rfl, by decide, qw280, inqX4, tyX4_ok, nmX4, Or.inr ⟨rfl, rfl, fun h => by cases h⟩⟩
    · cases h
      exact ⟨RX4, TX4, 5, tyX4, rfl, by decide, qw276, inqX4, tyX4_ok, nmX4, Or.inl rfl⟩
    · cases h
      exact ⟨RX4, TX4, 5, tyX4, rfl, by decide, qw278, inqX4, tyX4_ok, nmX4, Or.inl rfl⟩
    · cases h
      exact ⟨RX8, TX8, 5, tyX8, rfl, by decide, qw295, inqX8, tyX8_ok, nmX8, Or.inr ⟨rfl, rfl, fun _ => rfl⟩⟩
    · cases h
      exact ⟨RX8, TX8, 5, tyX8, rfl, by decide, qw294, inqX8, tyX8_ok, nmX8, Or.inr ⟨rfl, rfl, fun _ => rfl⟩⟩
    · cases h
  · unfold kX8 at h
    split at h
    · cases h
      exact qw703
    · cases h
  · unfold jX8 at h
    split at h
    · cases h
      exact qw586
    · cases h
      exact qw590
    · cases h
  · unfold nX8 at h
    split at h
    · cases h
      exact Or.inr ⟨RX1, TX1, tyX1, rfl, qw78, qw79, qw52, inqX1, tyX1_ok, rfl⟩
    · cases h
      exact Or.inr ⟨RX6, TX6, tyX6, rfl, qw112, qw113, qw53, inqX6, tyX6_ok, rfl⟩
    · cases h
      exact Or.inr ⟨RX4, TX4, tyX4, rfl, qw265, qw266, qw59, inqX4, tyX4_ok, rfl⟩
    · cases h
theorem tabX9 : qTab RX9 fX9 kX9 jX9 nX9 := by
  refine ⟨fun idx ci j ty fin h => ?_, fun n v h => ?_, fun n v h => ?_, fun idx ci N t h => ?_⟩
  · unfold fX9 at h
    split at h
    · cases h
      exact ⟨RX9, TX9, 13, tyX9, rfl, by decide, qw903, inqX9, tyX9_ok, nmX9, Or.inr ⟨rfl, rfl, fun _ => rfl⟩⟩
    · cases h
      exact ⟨RX9, TX9, 13, tyX9, rfl, by decide, qw904, inqX9, tyX9_ok, nmX9, Or.inr ⟨rfl, rfl, fun _ => rfl⟩⟩
    · cases h
      exact ⟨RX9, TX9, 13, tyX9, rfl, by decide, qw905, inqX9, tyX9_ok, nmX9, Or.inr ⟨rfl, rfl, fun _ => rfl⟩⟩
    · cases h
      exact ⟨RX9, TX9, 13, tyX9, rfl, by decide, qw907, inqX9, tyX9_ok, nmX9, Or.inr ⟨rfl, rfl, fun _ => rfl⟩⟩
    · cases h
      exact ⟨RX9, TX9, 13, tyX9, rfl, by decide, qw910, inqX9, tyX9_ok, nmX9, Or.inr ⟨rfl, rfl, fun _ => rfl⟩⟩
    · cases h
      exact ⟨RX9, TX9, 13, tyX9, rfl, by decide, qw909, inqX9, tyX9_ok, nmX9, Or.inr ⟨rfl, rfl, fun _ => rfl⟩⟩
    · cases h
      exact ⟨RX9, TX9, 13, tyX9, rfl, by decide, qw906, inqX9, tyX9_ok, nmX9, Or.inr ⟨rfl, rfl, fun _ => rfl⟩⟩
    · cases h
      exact ⟨RX9, TX9, 13, tyX9, rfl, by decide, qw911, inqX9, tyX9_ok, nmX9, Or.inr ⟨rfl, rfl, fun _ => rfl⟩⟩
    · cases h
      exact ⟨RX9, TX9, 13, tyX9, rfl, by decide, qw908, inqX9, tyX9_ok, nmX9, Or.inr ⟨rfl, rfl, fun _ => rfl⟩⟩
    · cases h
      exact ⟨RX9, TX9, 13, tyX9, rfl, by decide, qw912, inqX9, tyX9_ok, nmX9, Or.inr ⟨rfl, rfl, fun _ => rfl⟩⟩
    · cases h
      exact ⟨RX9, TX9, 13, tyX9, rfl, by decide, qw913, inqX9, tyX9_ok, nmX9, Or.inr ⟨rfl, rfl, fun _ => rfl⟩⟩
    · cases h
      exact ⟨RX9, TX9, 13, tyX9, rfl, by decide, qw914, inqX9, tyX9_ok, nmX9, Or.inr ⟨rfl, rfl, fun _ => rfl⟩⟩
    · cases h
      exact ⟨RX9, TX9, 13, tyX9, rfl, by decide, qw915, inqX9, tyX9_ok, nmX9, Or.inr ⟨rfl, rfl, fun _ => rfl⟩⟩
    · cases h
  · unfold kX9 at h
    split at h
    · cases h
      exact qw961
    · cases h
      exact qw1034
    · cases h
  · unfold jX9 at h
    split at h
    · cases h
      exact qw1251
    · cases h
      exact qw1246
    · cases h
  · cases h
