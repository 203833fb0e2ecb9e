/-! ===== words, tables (by program: wip/gen) ===== -/
theorem va_AOA_words : Cond.arrayClass .int ∈ qT ∧ Cond.arrayClass .long ∈ qT := ⟨qT_in (List.mem_of_getElem? (i := 111) (by decide +kernel)) (by decide +kernel), qT_in (List.mem_of_getElem? (i := 1256) (by decide +kernel)) (by decide +kernel)⟩
theorem qw0 : Cond.selects RX8 yX8_saveState yX8_saveState ∈ qT := qT_in (List.mem_of_getElem? (i := 0) (by decide +kernel)) (by decide +kernel)
theorem qw1 : Cond.selects RX8 yX8_nextPlace yX8_nextPlace ∈ qT := qT_in (List.mem_of_getElem? (i := 1) (by decide +kernel)) (by decide +kernel)
theorem qw2 : Cond.selects RX8 yX8_keepNextPlace yX8_keepNextPlace ∈ qT := qT_in (List.mem_of_getElem? (i := 2) (by decide +kernel)) (by decide +kernel)
theorem qw3 : Cond.selects RX2 yX2_decode yX2_decode ∈ qT := qT_in (List.mem_of_getElem? (i := 3) (by decide +kernel)) (by decide +kernel)
theorem qw4 : Cond.selects RX2 yX2_isRight yX2_isRight ∈ qT := qT_in (List.mem_of_getElem? (i := 4) (by decide +kernel)) (by decide +kernel)
theorem qw5 : Cond.selects RX2 yX2_missReference yX2_missReference ∈ qT := qT_in (List.mem_of_getElem? (i := 5) (by decide +kernel)) (by decide +kernel)
theorem qw6 : Cond.selects RX2 yX2_keepDecoded yX2_keepDecoded ∈ qT := qT_in (List.mem_of_getElem? (i := 6) (by decide +kernel)) (by decide +kernel)
theorem qw7 : Cond.selects RX8 yX8_linkOf yX8_linkOf ∈ qT := qT_in (List.mem_of_getElem? (i := 7) (by decide +kernel)) (by decide +kernel)
theorem qw8 : Cond.selects RX4 yX4_addOrder yX4_addOrder ∈ qT := qT_in (List.mem_of_getElem? (i := 8) (by decide +kernel)) (by decide +kernel)
theorem qw9 : Cond.selects RX6 yX6_isPossible yX6_isPossible ∈ qT := qT_in (List.mem_of_getElem? (i := 9) (by decide +kernel)) (by decide +kernel)
theorem qw11 : Cond.selects RX9 yX9_fails yX9_fails ∈ qT := qT_in (List.mem_of_getElem? (i := 11) (by decide +kernel)) (by decide +kernel)
theorem qw12 : Cond.selects RX9 yX9_hold yX9_hold ∈ qT := qT_in (List.mem_of_getElem? (i := 12) (by decide +kernel)) (by decide +kernel)
theorem qw13 : Cond.selects RX9 yX9_ends yX9_ends ∈ qT := qT_in (List.mem_of_getElem? (i := 13) (by decide +kernel)) (by decide +kernel)
theorem qw14 : Cond.selects RX9 yX9_tells yX9_tells ∈ qT := qT_in (List.mem_of_getElem? (i := 14) (by decide +kernel)) (by decide +kernel)
theorem qw15 : Cond.selects RX9 yX9_goesOn yX9_goesOn ∈ qT := qT_in (List.mem_of_getElem? (i := 15) (by decide +kernel)) (by decide +kernel)
theorem qw16 : Cond.selects RX9 yX9_maySend yX9_maySend ∈ qT := qT_in (List.mem_of_getElem? (i := 16) (by decide +kernel)) (by decide +kernel)
theorem qw17 : Cond.selects RX9 yX9_sends yX9_sends ∈ qT := qT_in (List.mem_of_getElem? (i := 17) (by decide +kernel)) (by decide +kernel)
theorem qw18 : Cond.selects RX9 yX9_trusted yX9_trusted ∈ qT := qT_in (List.mem_of_getElem? (i := 18) (by decide +kernel)) (by decide +kernel)
theorem qw19 : Cond.selects RX9 yX9_of yX9_of ∈ qT := qT_in (List.mem_of_getElem? (i := 19) (by decide +kernel)) (by decide +kernel)
theorem qw20 : Cond.selects RX9 yX9_formFor yX9_formFor ∈ qT := qT_in (List.mem_of_getElem? (i := 20) (by decide +kernel)) (by decide +kernel)
theorem qw21 : Cond.selects RX9 yX9_sizeOf yX9_sizeOf ∈ qT := qT_in (List.mem_of_getElem? (i := 21) (by decide +kernel)) (by decide +kernel)
theorem qw22 : Cond.selects RX9 yX9_senderBase yX9_senderBase ∈ qT := qT_in (List.mem_of_getElem? (i := 22) (by decide +kernel)) (by decide +kernel)
theorem qw23 : Cond.selects RX9 yX9_puts yX9_puts ∈ qT := qT_in (List.mem_of_getElem? (i := 23) (by decide +kernel)) (by decide +kernel)
theorem qw24 : Cond.selects RX9 yX9_joins yX9_joins ∈ qT := qT_in (List.mem_of_getElem? (i := 24) (by decide +kernel)) (by decide +kernel)
theorem qw25 : Cond.selects RX9 yX9_told yX9_told ∈ qT := qT_in (List.mem_of_getElem? (i := 25) (by decide +kernel)) (by decide +kernel)
theorem qw26 : Cond.selects RX9 yX9_delivers yX9_delivers ∈ qT := qT_in (List.mem_of_getElem? (i := 26) (by decide +kernel)) (by decide +kernel)
theorem qw27 : Cond.selects RX9 yX9_isIn yX9_isIn ∈ qT := qT_in (List.mem_of_getElem? (i := 27) (by decide +kernel)) (by decide +kernel)
theorem qw28 : Cond.selects RX9 yX9_takes yX9_takes ∈ qT := qT_in (List.mem_of_getElem? (i := 28) (by decide +kernel)) (by decide +kernel)
theorem qw29 : Cond.selects RX9 yX9_receives yX9_receives ∈ qT := qT_in (List.mem_of_getElem? (i := 29) (by decide +kernel)) (by decide +kernel)
theorem qw30 : Cond.selects RX9 yX9_numberOf yX9_numberOf ∈ qT := qT_in (List.mem_of_getElem? (i := 30) (by decide +kernel)) (by decide +kernel)
theorem qw31 : Cond.selects RX9 yX9_placeOf yX9_placeOf ∈ qT := qT_in (List.mem_of_getElem? (i := 31) (by decide +kernel)) (by decide +kernel)
theorem qw32 : Cond.selects RX9 yX9_fails2 yX9_fails2 ∈ qT := qT_in (List.mem_of_getElem? (i := 32) (by decide +kernel)) (by decide +kernel)
theorem qw33 : Cond.selects RX9 yX9_decodes yX9_decodes ∈ qT := qT_in (List.mem_of_getElem? (i := 33) (by decide +kernel)) (by decide +kernel)
theorem qw34 : Cond.selects RX9 yX9_keeps yX9_keeps ∈ qT := qT_in (List.mem_of_getElem? (i := 34) (by decide +kernel)) (by decide +kernel)
theorem qw35 : Cond.selects RX9 yX9_drops yX9_drops ∈ qT := qT_in (List.mem_of_getElem? (i := 35) (by decide +kernel)) (by decide +kernel)
theorem qw36 : Cond.selects RX9 yX9_done yX9_done ∈ qT := qT_in (List.mem_of_getElem? (i := 36) (by decide +kernel)) (by decide +kernel)
theorem qw37 : Cond.selects RX9 yX9_loses yX9_loses ∈ qT := qT_in (List.mem_of_getElem? (i := 37) (by decide +kernel)) (by decide +kernel)
theorem qw38 : Cond.selects RX9 yX9_copies yX9_copies ∈ qT := qT_in (List.mem_of_getElem? (i := 38) (by decide +kernel)) (by decide +kernel)
theorem qw39 : Cond.selects RX9 yX9_returns yX9_returns ∈ qT := qT_in (List.mem_of_getElem? (i := 39) (by decide +kernel)) (by decide +kernel)
theorem qw40 : Cond.selects RX9 yX9_recordOf yX9_recordOf ∈ qT := qT_in (List.mem_of_getElem? (i := 40) (by decide +kernel)) (by decide +kernel)
theorem qw41 : Cond.selects RX9 yX9_keptMany yX9_keptMany ∈ qT := qT_in (List.mem_of_getElem? (i := 41) (by decide +kernel)) (by decide +kernel)
theorem qw42 : Cond.selects RX9 yX9_counted yX9_counted ∈ qT := qT_in (List.mem_of_getElem? (i := 42) (by decide +kernel)) (by decide +kernel)
theorem qw43 : Cond.selects RX9 yX9_spared yX9_spared ∈ qT := qT_in (List.mem_of_getElem? (i := 43) (by decide +kernel)) (by decide +kernel)
theorem qw44 : Cond.selects RX9 yX9_isOrder yX9_isOrder ∈ qT := qT_in (List.mem_of_getElem? (i := 44) (by decide +kernel)) (by decide +kernel)
theorem qw45 : Cond.selects RX9 yX9_digitHere yX9_digitHere ∈ qT := qT_in (List.mem_of_getElem? (i := 45) (by decide +kernel)) (by decide +kernel)
theorem qw46 : Cond.selects RX9 yX9_isDone yX9_isDone ∈ qT := qT_in (List.mem_of_getElem? (i := 46) (by decide +kernel)) (by decide +kernel)
theorem qw47 : Cond.selects RX9 yX9_restore yX9_restore ∈ qT := qT_in (List.mem_of_getElem? (i := 47) (by decide +kernel)) (by decide +kernel)
theorem qw48 : Cond.selects RX9 yX9_mix yX9_mix ∈ qT := qT_in (List.mem_of_getElem? (i := 48) (by decide +kernel)) (by decide +kernel)
theorem qw49 : Cond.selects RX9 yX9_mixAll yX9_mixAll ∈ qT := qT_in (List.mem_of_getElem? (i := 49) (by decide +kernel)) (by decide +kernel)
theorem qw51 : Cond.initialized RX8 ∈ qT := qT_in (List.mem_of_getElem? (i := 51) (by decide +kernel)) (by decide +kernel)
theorem qw52 : Cond.initialized RX1 ∈ qT := qT_in (List.mem_of_getElem? (i := 52) (by decide +kernel)) (by decide +kernel)
theorem qw53 : Cond.initialized RX6 ∈ qT := qT_in (List.mem_of_getElem? (i := 53) (by decide +kernel)) (by decide +kernel)
theorem qw54 : Cond.initialized RX0 ∈ qT := qT_in (List.mem_of_getElem? (i := 54) (by decide +kernel)) (by decide +kernel)
theorem qw55 : Cond.initialized RX5 ∈ qT := qT_in (List.mem_of_getElem? (i := 55) (by decide +kernel)) (by decide +kernel)
theorem qw56 : Cond.initialized RX2 ∈ qT := qT_in (List.mem_of_getElem? (i := 56) (by decide +kernel)) (by decide +kernel)
theorem qw57 : Cond.initialized RX7 ∈ qT := qT_in (List.mem_of_getElem? (i := 57) (by decide +kernel)) (by decide +kernel)
theorem qw58 : Cond.initialized RJ7 ∈ qT := qT_in (List.mem_of_getElem? (i := 58) (by decide +kernel)) (by decide +kernel)
theorem qw59 : Cond.initialized RX4 ∈ qT := qT_in (List.mem_of_getElem? (i := 59) (by decide +kernel)) (by decide +kernel)
theorem qw60 : Cond.initialized RX9 ∈ qT := qT_in (List.mem_of_getElem? (i := 60) (by decide +kernel)) (by decide +kernel)
theorem qw66 : Cond.initialized RX3 ∈ qT := qT_in (List.mem_of_getElem? (i := 66) (by decide +kernel)) (by decide +kernel)
theorem qw67 : Cond.initialized "java/lang/System" ∈ qT := qT_in (List.mem_of_getElem? (i := 67) (by decide +kernel)) (by decide +kernel)
theorem qw68 : Cond.initialized "java/lang/Math" ∈ qT := qT_in (List.mem_of_getElem? (i := 68) (by decide +kernel)) (by decide +kernel)
theorem qw75 : Cond.methodLink RX8 1 objectInit ∈ qT := qT_in (List.mem_of_getElem? (i := 75) (by decide +kernel)) (by decide +kernel)
theorem qw76 : Cond.instanceMethod objectInit ∈ qT := qT_in (List.mem_of_getElem? (i := 76) (by decide +kernel)) (by decide +kernel)
theorem qw77 : Cond.code objectInit ⟨#[0xb1]⟩ 1 none ∈ qT := qT_in (List.mem_of_getElem? (i := 77) (by decide +kernel)) (by decide +kernel)
theorem qw78 : Cond.classLink RX8 7 "HeaderSqueezer$PacketLog" ∈ qT := qT_in (List.mem_of_getElem? (i := 78) (by decide +kernel)) (by decide +kernel)
theorem qw79 : Cond.instantiable "HeaderSqueezer$PacketLog" 5 ∈ qT := qT_in (List.mem_of_getElem? (i := 79) (by decide +kernel)) (by decide +kernel)
theorem qw81 : Cond.instanceMethod yX1_init ∈ qT := qT_in (List.mem_of_getElem? (i := 81) (by decide +kernel)) (by decide +kernel)
theorem qw82 : Cond.code yX1_init cX1_init 1 none ∈ qT := qT_in (List.mem_of_getElem? (i := 82) (by decide +kernel)) (by decide +kernel)
theorem qw83 : Cond.methodLink RX1 3 objectInit ∈ qT := qT_in (List.mem_of_getElem? (i := 83) (by decide +kernel)) (by decide +kernel)
theorem qw84 : Cond.classLink RX1 9 "[[I" ∈ qT := qT_in (List.mem_of_getElem? (i := 84) (by decide +kernel)) (by decide +kernel)
theorem qw86 : Cond.fieldLink RX1 11 "HeaderSqueezer$PacketLog" "records" "[[I" ∈ qT := qT_in (List.mem_of_getElem? (i := 86) (by decide +kernel)) (by decide +kernel)
theorem qw87 : Cond.fieldLink RX2 98 "HeaderSqueezer$PacketLog" "records" "[[I" ∈ qT := qT_in (List.mem_of_getElem? (i := 87) (by decide +kernel)) (by decide +kernel)
theorem qw88 : Cond.fieldLink RX5 73 "HeaderSqueezer$PacketLog" "records" "[[I" ∈ qT := qT_in (List.mem_of_getElem? (i := 88) (by decide +kernel)) (by decide +kernel)
theorem qw89 : Cond.fieldLink RX1 16 "HeaderSqueezer$PacketLog" "carried" "[[I" ∈ qT := qT_in (List.mem_of_getElem? (i := 89) (by decide +kernel)) (by decide +kernel)
theorem qw90 : Cond.fieldLink RX2 123 "HeaderSqueezer$PacketLog" "carried" "[[I" ∈ qT := qT_in (List.mem_of_getElem? (i := 90) (by decide +kernel)) (by decide +kernel)
theorem qw91 : Cond.fieldLink RX5 97 "HeaderSqueezer$PacketLog" "carried" "[[I" ∈ qT := qT_in (List.mem_of_getElem? (i := 91) (by decide +kernel)) (by decide +kernel)
theorem qw92 : Cond.fieldLink RX1 19 "HeaderSqueezer$PacketLog" "forms" "[I" ∈ qT := qT_in (List.mem_of_getElem? (i := 92) (by decide +kernel)) (by decide +kernel)
theorem qw93 : Cond.fieldLink RX2 70 "HeaderSqueezer$PacketLog" "forms" "[I" ∈ qT := qT_in (List.mem_of_getElem? (i := 93) (by decide +kernel)) (by decide +kernel)
theorem qw94 : Cond.fieldLink RX5 100 "HeaderSqueezer$PacketLog" "forms" "[I" ∈ qT := qT_in (List.mem_of_getElem? (i := 94) (by decide +kernel)) (by decide +kernel)
theorem qw95 : Cond.fieldLink RX1 23 "HeaderSqueezer$PacketLog" "references" "[I" ∈ qT := qT_in (List.mem_of_getElem? (i := 95) (by decide +kernel)) (by decide +kernel)
theorem qw96 : Cond.fieldLink RX2 112 "HeaderSqueezer$PacketLog" "references" "[I" ∈ qT := qT_in (List.mem_of_getElem? (i := 96) (by decide +kernel)) (by decide +kernel)
theorem qw97 : Cond.fieldLink RX5 103 "HeaderSqueezer$PacketLog" "references" "[I" ∈ qT := qT_in (List.mem_of_getElem? (i := 97) (by decide +kernel)) (by decide +kernel)
theorem qw98 : Cond.fieldLink RX1 26 "HeaderSqueezer$PacketLog" "sizes" "[I" ∈ qT := qT_in (List.mem_of_getElem? (i := 98) (by decide +kernel)) (by decide +kernel)
theorem qw99 : Cond.fieldLink RX5 106 "HeaderSqueezer$PacketLog" "sizes" "[I" ∈ qT := qT_in (List.mem_of_getElem? (i := 99) (by decide +kernel)) (by decide +kernel)
theorem qw112 : Cond.classLink RX8 10 "HeaderSqueezer$State" ∈ qT := qT_in (List.mem_of_getElem? (i := 112) (by decide +kernel)) (by decide +kernel)
theorem qw113 : Cond.instantiable "HeaderSqueezer$State" 4 ∈ qT := qT_in (List.mem_of_getElem? (i := 113) (by decide +kernel)) (by decide +kernel)
theorem qw114 : Cond.methodLink RX8 12 yX6_init ∈ qT := qT_in (List.mem_of_getElem? (i := 114) (by decide +kernel)) (by decide +kernel)
theorem qw115 : Cond.instanceMethod yX6_init ∈ qT := qT_in (List.mem_of_getElem? (i := 115) (by decide +kernel)) (by decide +kernel)
theorem qw116 : Cond.code yX6_init cX6_init 2 none ∈ qT := qT_in (List.mem_of_getElem? (i := 116) (by decide +kernel)) (by decide +kernel)
theorem qw117 : Cond.methodLink RX6 3 objectInit ∈ qT := qT_in (List.mem_of_getElem? (i := 117) (by decide +kernel)) (by decide +kernel)
theorem qw118 : Cond.classLink RX6 9 "HeaderSqueezer$Link" ∈ qT := qT_in (List.mem_of_getElem? (i := 118) (by decide +kernel)) (by decide +kernel)
theorem qw119 : Cond.instantiable "HeaderSqueezer$Link" 2 ∈ qT := qT_in (List.mem_of_getElem? (i := 119) (by decide +kernel)) (by decide +kernel)
theorem qw121 : Cond.instanceMethod yX0_init ∈ qT := qT_in (List.mem_of_getElem? (i := 121) (by decide +kernel)) (by decide +kernel)
theorem qw122 : Cond.code yX0_init cX0_init 1 none ∈ qT := qT_in (List.mem_of_getElem? (i := 122) (by decide +kernel)) (by decide +kernel)
theorem qw123 : Cond.methodLink RX0 3 objectInit ∈ qT := qT_in (List.mem_of_getElem? (i := 123) (by decide +kernel)) (by decide +kernel)
theorem qw124 : Cond.fieldLink RX0 9 "HeaderSqueezer$Link" "items" "[I" ∈ qT := qT_in (List.mem_of_getElem? (i := 124) (by decide +kernel)) (by decide +kernel)
theorem qw125 : Cond.fieldLink RX6 99 "HeaderSqueezer$Link" "items" "[I" ∈ qT := qT_in (List.mem_of_getElem? (i := 125) (by decide +kernel)) (by decide +kernel)
theorem qw126 : Cond.fieldLink RX8 142 "HeaderSqueezer$Link" "items" "[I" ∈ qT := qT_in (List.mem_of_getElem? (i := 126) (by decide +kernel)) (by decide +kernel)
theorem qw127 : Cond.fieldLink RX0 15 "HeaderSqueezer$Link" "length" "I" ∈ qT := qT_in (List.mem_of_getElem? (i := 127) (by decide +kernel)) (by decide +kernel)
theorem qw128 : Cond.fieldLink RX6 51 "HeaderSqueezer$Link" "length" "I" ∈ qT := qT_in (List.mem_of_getElem? (i := 128) (by decide +kernel)) (by decide +kernel)
theorem qw129 : Cond.fieldLink RX8 100 "HeaderSqueezer$Link" "length" "I" ∈ qT := qT_in (List.mem_of_getElem? (i := 129) (by decide +kernel)) (by decide +kernel)
theorem qw135 : Cond.classLink RX6 21 "HeaderSqueezer$Sender" ∈ qT := qT_in (List.mem_of_getElem? (i := 135) (by decide +kernel)) (by decide +kernel)
theorem qw136 : Cond.instantiable "HeaderSqueezer$Sender" 11 ∈ qT := qT_in (List.mem_of_getElem? (i := 136) (by decide +kernel)) (by decide +kernel)
theorem qw137 : Cond.methodLink RX6 23 yX5_init ∈ qT := qT_in (List.mem_of_getElem? (i := 137) (by decide +kernel)) (by decide +kernel)
theorem qw138 : Cond.instanceMethod yX5_init ∈ qT := qT_in (List.mem_of_getElem? (i := 138) (by decide +kernel)) (by decide +kernel)
theorem qw139 : Cond.code yX5_init cX5_init 2 none ∈ qT := qT_in (List.mem_of_getElem? (i := 139) (by decide +kernel)) (by decide +kernel)
theorem qw140 : Cond.methodLink RX5 3 objectInit ∈ qT := qT_in (List.mem_of_getElem? (i := 140) (by decide +kernel)) (by decide +kernel)
theorem qw141 : Cond.fieldLink RX5 44 "HeaderSqueezer$Sender" "log" "LHeaderSqueezer$PacketLog;" ∈ qT := qT_in (List.mem_of_getElem? (i := 141) (by decide +kernel)) (by decide +kernel)
theorem qw142 : Cond.fieldLink RX5 9 "HeaderSqueezer$Sender" "present" "[I" ∈ qT := qT_in (List.mem_of_getElem? (i := 142) (by decide +kernel)) (by decide +kernel)
theorem qw143 : Cond.fieldLink RX8 59 "HeaderSqueezer$Sender" "present" "[I" ∈ qT := qT_in (List.mem_of_getElem? (i := 143) (by decide +kernel)) (by decide +kernel)
theorem qw144 : Cond.fieldLink RX5 15 "HeaderSqueezer$Sender" "policy" "I" ∈ qT := qT_in (List.mem_of_getElem? (i := 144) (by decide +kernel)) (by decide +kernel)
theorem qw145 : Cond.fieldLink RX8 69 "HeaderSqueezer$Sender" "policy" "I" ∈ qT := qT_in (List.mem_of_getElem? (i := 145) (by decide +kernel)) (by decide +kernel)
theorem qw146 : Cond.fieldLink RX5 19 "HeaderSqueezer$Sender" "confidence" "I" ∈ qT := qT_in (List.mem_of_getElem? (i := 146) (by decide +kernel)) (by decide +kernel)
theorem qw147 : Cond.fieldLink RX8 73 "HeaderSqueezer$Sender" "confidence" "I" ∈ qT := qT_in (List.mem_of_getElem? (i := 147) (by decide +kernel)) (by decide +kernel)
theorem qw148 : Cond.fieldLink RX5 22 "HeaderSqueezer$Sender" "repairDue" "Z" ∈ qT := qT_in (List.mem_of_getElem? (i := 148) (by decide +kernel)) (by decide +kernel)
theorem qw149 : Cond.fieldLink RX5 26 "HeaderSqueezer$Sender" "sentPackets" "I" ∈ qT := qT_in (List.mem_of_getElem? (i := 149) (by decide +kernel)) (by decide +kernel)
theorem qw150 : Cond.fieldLink RX6 47 "HeaderSqueezer$Sender" "sentPackets" "I" ∈ qT := qT_in (List.mem_of_getElem? (i := 150) (by decide +kernel)) (by decide +kernel)
theorem qw151 : Cond.fieldLink RX8 115 "HeaderSqueezer$Sender" "sentPackets" "I" ∈ qT := qT_in (List.mem_of_getElem? (i := 151) (by decide +kernel)) (by decide +kernel)
theorem qw152 : Cond.fieldLink RX5 29 "HeaderSqueezer$Sender" "fullPackets" "I" ∈ qT := qT_in (List.mem_of_getElem? (i := 152) (by decide +kernel)) (by decide +kernel)
theorem qw153 : Cond.fieldLink RX6 83 "HeaderSqueezer$Sender" "fullPackets" "I" ∈ qT := qT_in (List.mem_of_getElem? (i := 153) (by decide +kernel)) (by decide +kernel)
theorem qw154 : Cond.fieldLink RX5 32 "HeaderSqueezer$Sender" "sentBytes" "I" ∈ qT := qT_in (List.mem_of_getElem? (i := 154) (by decide +kernel)) (by decide +kernel)
theorem qw155 : Cond.fieldLink RX8 211 "HeaderSqueezer$Sender" "sentBytes" "I" ∈ qT := qT_in (List.mem_of_getElem? (i := 155) (by decide +kernel)) (by decide +kernel)
theorem qw156 : Cond.fieldLink RX5 35 "HeaderSqueezer$Sender" "acknowledged" "[I" ∈ qT := qT_in (List.mem_of_getElem? (i := 156) (by decide +kernel)) (by decide +kernel)
theorem qw157 : Cond.fieldLink RX5 38 "HeaderSqueezer$Sender" "base" "[I" ∈ qT := qT_in (List.mem_of_getElem? (i := 157) (by decide +kernel)) (by decide +kernel)
theorem qw158 : Cond.fieldLink RX5 41 "HeaderSqueezer$Sender" "relation" "[I" ∈ qT := qT_in (List.mem_of_getElem? (i := 158) (by decide +kernel)) (by decide +kernel)
theorem qw182 : Cond.classLink RX6 30 "HeaderSqueezer$Receiver" ∈ qT := qT_in (List.mem_of_getElem? (i := 182) (by decide +kernel)) (by decide +kernel)
theorem qw183 : Cond.instantiable "HeaderSqueezer$Receiver" 11 ∈ qT := qT_in (List.mem_of_getElem? (i := 183) (by decide +kernel)) (by decide +kernel)
theorem qw184 : Cond.methodLink RX6 32 yX2_init ∈ qT := qT_in (List.mem_of_getElem? (i := 184) (by decide +kernel)) (by decide +kernel)
theorem qw185 : Cond.instanceMethod yX2_init ∈ qT := qT_in (List.mem_of_getElem? (i := 185) (by decide +kernel)) (by decide +kernel)
theorem qw186 : Cond.code yX2_init cX2_init 2 none ∈ qT := qT_in (List.mem_of_getElem? (i := 186) (by decide +kernel)) (by decide +kernel)
theorem qw187 : Cond.methodLink RX2 3 objectInit ∈ qT := qT_in (List.mem_of_getElem? (i := 187) (by decide +kernel)) (by decide +kernel)
theorem qw188 : Cond.classLink RX2 37 "HeaderSqueezer$Window" ∈ qT := qT_in (List.mem_of_getElem? (i := 188) (by decide +kernel)) (by decide +kernel)
theorem qw189 : Cond.instantiable "HeaderSqueezer$Window" 2 ∈ qT := qT_in (List.mem_of_getElem? (i := 189) (by decide +kernel)) (by decide +kernel)
theorem qw190 : Cond.methodLink RX2 39 yX7_init ∈ qT := qT_in (List.mem_of_getElem? (i := 190) (by decide +kernel)) (by decide +kernel)
theorem qw191 : Cond.instanceMethod yX7_init ∈ qT := qT_in (List.mem_of_getElem? (i := 191) (by decide +kernel)) (by decide +kernel)
theorem qw192 : Cond.code yX7_init cX7_init 1 none ∈ qT := qT_in (List.mem_of_getElem? (i := 192) (by decide +kernel)) (by decide +kernel)
theorem qw193 : Cond.methodLink RX7 3 objectInit ∈ qT := qT_in (List.mem_of_getElem? (i := 193) (by decide +kernel)) (by decide +kernel)
theorem qw194 : Cond.classLink RX7 15 "[[I" ∈ qT := qT_in (List.mem_of_getElem? (i := 194) (by decide +kernel)) (by decide +kernel)
theorem qw195 : Cond.methodLink RX7 20 yJ7_fill_53178 ∈ qT := qT_in (List.mem_of_getElem? (i := 195) (by decide +kernel)) (by decide +kernel)
theorem qw196 : Cond.static yJ7_fill_53178 ∈ qT := qT_in (List.mem_of_getElem? (i := 196) (by decide +kernel)) (by decide +kernel)
theorem qw197 : Cond.code yJ7_fill_53178 cJ7_fill_53178 4 none ∈ qT := qT_in (List.mem_of_getElem? (i := 197) (by decide +kernel)) (by decide +kernel)
theorem qw198 : Cond.fieldLink RX7 9 "HeaderSqueezer$Window" "numbers" "[I" ∈ qT := qT_in (List.mem_of_getElem? (i := 198) (by decide +kernel)) (by decide +kernel)
theorem qw199 : Cond.fieldLink RX7 17 "HeaderSqueezer$Window" "rows" "[[I" ∈ qT := qT_in (List.mem_of_getElem? (i := 199) (by decide +kernel)) (by decide +kernel)
theorem qw205 : Cond.fieldLink RX2 47 "HeaderSqueezer$Receiver" "log" "LHeaderSqueezer$PacketLog;" ∈ qT := qT_in (List.mem_of_getElem? (i := 205) (by decide +kernel)) (by decide +kernel)
theorem qw206 : Cond.fieldLink RX2 9 "HeaderSqueezer$Receiver" "depth" "I" ∈ qT := qT_in (List.mem_of_getElem? (i := 206) (by decide +kernel)) (by decide +kernel)
theorem qw207 : Cond.fieldLink RX8 169 "HeaderSqueezer$Receiver" "depth" "I" ∈ qT := qT_in (List.mem_of_getElem? (i := 207) (by decide +kernel)) (by decide +kernel)
theorem qw208 : Cond.fieldLink RX2 15 "HeaderSqueezer$Receiver" "interval" "I" ∈ qT := qT_in (List.mem_of_getElem? (i := 208) (by decide +kernel)) (by decide +kernel)
theorem qw209 : Cond.fieldLink RX8 174 "HeaderSqueezer$Receiver" "interval" "I" ∈ qT := qT_in (List.mem_of_getElem? (i := 209) (by decide +kernel)) (by decide +kernel)
theorem qw210 : Cond.fieldLink RX2 18 "HeaderSqueezer$Receiver" "patience" "I" ∈ qT := qT_in (List.mem_of_getElem? (i := 210) (by decide +kernel)) (by decide +kernel)
theorem qw211 : Cond.fieldLink RX8 177 "HeaderSqueezer$Receiver" "patience" "I" ∈ qT := qT_in (List.mem_of_getElem? (i := 211) (by decide +kernel)) (by decide +kernel)
theorem qw212 : Cond.fieldLink RX2 21 "HeaderSqueezer$Receiver" "highest" "I" ∈ qT := qT_in (List.mem_of_getElem? (i := 212) (by decide +kernel)) (by decide +kernel)
theorem qw213 : Cond.fieldLink RX8 180 "HeaderSqueezer$Receiver" "highest" "I" ∈ qT := qT_in (List.mem_of_getElem? (i := 213) (by decide +kernel)) (by decide +kernel)
theorem qw214 : Cond.fieldLink RX2 24 "HeaderSqueezer$Receiver" "unknownInRow" "I" ∈ qT := qT_in (List.mem_of_getElem? (i := 214) (by decide +kernel)) (by decide +kernel)
theorem qw215 : Cond.fieldLink RX2 27 "HeaderSqueezer$Receiver" "requests" "I" ∈ qT := qT_in (List.mem_of_getElem? (i := 215) (by decide +kernel)) (by decide +kernel)
theorem qw216 : Cond.fieldLink RX6 80 "HeaderSqueezer$Receiver" "requests" "I" ∈ qT := qT_in (List.mem_of_getElem? (i := 216) (by decide +kernel)) (by decide +kernel)
theorem qw217 : Cond.fieldLink RX2 30 "HeaderSqueezer$Receiver" "lateness" "I" ∈ qT := qT_in (List.mem_of_getElem? (i := 217) (by decide +kernel)) (by decide +kernel)
theorem qw218 : Cond.fieldLink RX8 208 "HeaderSqueezer$Receiver" "lateness" "I" ∈ qT := qT_in (List.mem_of_getElem? (i := 218) (by decide +kernel)) (by decide +kernel)
theorem qw219 : Cond.fieldLink RX2 33 "HeaderSqueezer$Receiver" "outcomes" "[I" ∈ qT := qT_in (List.mem_of_getElem? (i := 219) (by decide +kernel)) (by decide +kernel)
theorem qw220 : Cond.fieldLink RX6 76 "HeaderSqueezer$Receiver" "outcomes" "[I" ∈ qT := qT_in (List.mem_of_getElem? (i := 220) (by decide +kernel)) (by decide +kernel)
theorem qw221 : Cond.fieldLink RX2 40 "HeaderSqueezer$Receiver" "window" "LHeaderSqueezer$Window;" ∈ qT := qT_in (List.mem_of_getElem? (i := 221) (by decide +kernel)) (by decide +kernel)
theorem qw222 : Cond.fieldLink RX8 185 "HeaderSqueezer$Receiver" "window" "LHeaderSqueezer$Window;" ∈ qT := qT_in (List.mem_of_getElem? (i := 222) (by decide +kernel)) (by decide +kernel)
theorem qw223 : Cond.fieldLink RX2 44 "HeaderSqueezer$Receiver" "decoded" "[I" ∈ qT := qT_in (List.mem_of_getElem? (i := 223) (by decide +kernel)) (by decide +kernel)
theorem qw247 : Cond.fieldLink RX6 26 "HeaderSqueezer$State" "sender" "LHeaderSqueezer$Sender;" ∈ qT := qT_in (List.mem_of_getElem? (i := 247) (by decide +kernel)) (by decide +kernel)
theorem qw248 : Cond.fieldLink RX8 55 "HeaderSqueezer$State" "sender" "LHeaderSqueezer$Sender;" ∈ qT := qT_in (List.mem_of_getElem? (i := 248) (by decide +kernel)) (by decide +kernel)
theorem qw249 : Cond.fieldLink RX6 33 "HeaderSqueezer$State" "receiver" "LHeaderSqueezer$Receiver;" ∈ qT := qT_in (List.mem_of_getElem? (i := 249) (by decide +kernel)) (by decide +kernel)
theorem qw250 : Cond.fieldLink RX8 165 "HeaderSqueezer$State" "receiver" "LHeaderSqueezer$Receiver;" ∈ qT := qT_in (List.mem_of_getElem? (i := 250) (by decide +kernel)) (by decide +kernel)
theorem qw251 : Cond.fieldLink RX6 12 "HeaderSqueezer$State" "forward" "LHeaderSqueezer$Link;" ∈ qT := qT_in (List.mem_of_getElem? (i := 251) (by decide +kernel)) (by decide +kernel)
theorem qw252 : Cond.fieldLink RX8 96 "HeaderSqueezer$State" "forward" "LHeaderSqueezer$Link;" ∈ qT := qT_in (List.mem_of_getElem? (i := 252) (by decide +kernel)) (by decide +kernel)
theorem qw253 : Cond.fieldLink RX6 18 "HeaderSqueezer$State" "back" "LHeaderSqueezer$Link;" ∈ qT := qT_in (List.mem_of_getElem? (i := 253) (by decide +kernel)) (by decide +kernel)
theorem qw254 : Cond.fieldLink RX8 149 "HeaderSqueezer$State" "back" "LHeaderSqueezer$Link;" ∈ qT := qT_in (List.mem_of_getElem? (i := 254) (by decide +kernel)) (by decide +kernel)
theorem qw265 : Cond.classLink RX8 25 "HeaderSqueezer$Script" ∈ qT := qT_in (List.mem_of_getElem? (i := 265) (by decide +kernel)) (by decide +kernel)
theorem qw266 : Cond.instantiable "HeaderSqueezer$Script" 5 ∈ qT := qT_in (List.mem_of_getElem? (i := 266) (by decide +kernel)) (by decide +kernel)
theorem qw268 : Cond.instanceMethod yX4_init ∈ qT := qT_in (List.mem_of_getElem? (i := 268) (by decide +kernel)) (by decide +kernel)
theorem qw269 : Cond.code yX4_init cX4_init 1 none ∈ qT := qT_in (List.mem_of_getElem? (i := 269) (by decide +kernel)) (by decide +kernel)
theorem qw270 : Cond.methodLink RX4 3 objectInit ∈ qT := qT_in (List.mem_of_getElem? (i := 270) (by decide +kernel)) (by decide +kernel)
theorem qw271 : Cond.fieldLink RX4 9 "HeaderSqueezer$Script" "text" "[I" ∈ qT := qT_in (List.mem_of_getElem? (i := 271) (by decide +kernel)) (by decide +kernel)
theorem qw272 : Cond.fieldLink RX8 217 "HeaderSqueezer$Script" "text" "[I" ∈ qT := qT_in (List.mem_of_getElem? (i := 272) (by decide +kernel)) (by decide +kernel)
theorem qw273 : Cond.fieldLink RX4 15 "HeaderSqueezer$Script" "length" "I" ∈ qT := qT_in (List.mem_of_getElem? (i := 273) (by decide +kernel)) (by decide +kernel)
theorem qw274 : Cond.fieldLink RX8 214 "HeaderSqueezer$Script" "length" "I" ∈ qT := qT_in (List.mem_of_getElem? (i := 274) (by decide +kernel)) (by decide +kernel)
theorem qw275 : Cond.fieldLink RX4 19 "HeaderSqueezer$Script" "letters" "[I" ∈ qT := qT_in (List.mem_of_getElem? (i := 275) (by decide +kernel)) (by decide +kernel)
theorem qw276 : Cond.fieldLink RX8 233 "HeaderSqueezer$Script" "letters" "[I" ∈ qT := qT_in (List.mem_of_getElem? (i := 276) (by decide +kernel)) (by decide +kernel)
theorem qw277 : Cond.fieldLink RX4 22 "HeaderSqueezer$Script" "numbers" "[I" ∈ qT := qT_in (List.mem_of_getElem? (i := 277) (by decide +kernel)) (by decide +kernel)
theorem qw278 : Cond.fieldLink RX8 236 "HeaderSqueezer$Script" "numbers" "[I" ∈ qT := qT_in (List.mem_of_getElem? (i := 278) (by decide +kernel)) (by decide +kernel)
theorem qw279 : Cond.fieldLink RX4 25 "HeaderSqueezer$Script" "orders" "I" ∈ qT := qT_in (List.mem_of_getElem? (i := 279) (by decide +kernel)) (by decide +kernel)
theorem qw280 : Cond.fieldLink RX8 230 "HeaderSqueezer$Script" "orders" "I" ∈ qT := qT_in (List.mem_of_getElem? (i := 280) (by decide +kernel)) (by decide +kernel)
theorem qw292 : Cond.fieldLink RX8 15 "HeaderSqueezer" "now" "LHeaderSqueezer$State;" ∈ qT := qT_in (List.mem_of_getElem? (i := 292) (by decide +kernel)) (by decide +kernel)
theorem qw293 : Cond.fieldLink RX8 21 "HeaderSqueezer" "places" "[LHeaderSqueezer$State;" ∈ qT := qT_in (List.mem_of_getElem? (i := 293) (by decide +kernel)) (by decide +kernel)
theorem qw294 : Cond.fieldLink RX8 251 "HeaderSqueezer" "newest" "I" ∈ qT := qT_in (List.mem_of_getElem? (i := 294) (by decide +kernel)) (by decide +kernel)
theorem qw295 : Cond.fieldLink RX8 246 "HeaderSqueezer" "savedStates" "I" ∈ qT := qT_in (List.mem_of_getElem? (i := 295) (by decide +kernel)) (by decide +kernel)
theorem qw296 : Cond.fieldLink RX8 28 "HeaderSqueezer" "script" "LHeaderSqueezer$Script;" ∈ qT := qT_in (List.mem_of_getElem? (i := 296) (by decide +kernel)) (by decide +kernel)
theorem qw312 : Cond.methodLink RX8 52 yX8_saveState ∈ qT := qT_in (List.mem_of_getElem? (i := 312) (by decide +kernel)) (by decide +kernel)
theorem qw314 : Cond.instanceMethod yX8_saveState ∈ qT := qT_in (List.mem_of_getElem? (i := 314) (by decide +kernel)) (by decide +kernel)
theorem qw315 : Cond.code yX8_saveState cX8_saveState 1 none ∈ qT := qT_in (List.mem_of_getElem? (i := 315) (by decide +kernel)) (by decide +kernel)
theorem qw316 : Cond.methodLink RX8 223 yX8_nextPlace ∈ qT := qT_in (List.mem_of_getElem? (i := 316) (by decide +kernel)) (by decide +kernel)
theorem qw318 : Cond.instanceMethod yX8_nextPlace ∈ qT := qT_in (List.mem_of_getElem? (i := 318) (by decide +kernel)) (by decide +kernel)
theorem qw319 : Cond.code yX8_nextPlace cX8_nextPlace 1 (some .int) ∈ qT := qT_in (List.mem_of_getElem? (i := 319) (by decide +kernel)) (by decide +kernel)
theorem qw320 : Cond.methodLink RX8 226 yX6_copyFrom ∈ qT := qT_in (List.mem_of_getElem? (i := 320) (by decide +kernel)) (by decide +kernel)
theorem qw321 : Cond.instanceMethod yX6_copyFrom ∈ qT := qT_in (List.mem_of_getElem? (i := 321) (by decide +kernel)) (by decide +kernel)
theorem qw322 : Cond.selects RX6 yX6_copyFrom yX6_copyFrom ∈ qT := qT_in (List.mem_of_getElem? (i := 322) (by decide +kernel)) (by decide +kernel)
theorem qw323 : Cond.code yX6_copyFrom cX6_copyFrom 2 none ∈ qT := qT_in (List.mem_of_getElem? (i := 323) (by decide +kernel)) (by decide +kernel)
theorem qw324 : Cond.methodLink RX6 37 yX5_copyFrom ∈ qT := qT_in (List.mem_of_getElem? (i := 324) (by decide +kernel)) (by decide +kernel)
theorem qw325 : Cond.instanceMethod yX5_copyFrom ∈ qT := qT_in (List.mem_of_getElem? (i := 325) (by decide +kernel)) (by decide +kernel)
theorem qw326 : Cond.selects RX5 yX5_copyFrom yX5_copyFrom ∈ qT := qT_in (List.mem_of_getElem? (i := 326) (by decide +kernel)) (by decide +kernel)
theorem qw327 : Cond.code yX5_copyFrom cX5_copyFrom 2 none ∈ qT := qT_in (List.mem_of_getElem? (i := 327) (by decide +kernel)) (by decide +kernel)
theorem qw328 : Cond.methodLink RX5 48 yX3_copyRow ∈ qT := qT_in (List.mem_of_getElem? (i := 328) (by decide +kernel)) (by decide +kernel)
theorem qw329 : Cond.static yX3_copyRow ∈ qT := qT_in (List.mem_of_getElem? (i := 329) (by decide +kernel)) (by decide +kernel)
theorem qw330 : Cond.code yX3_copyRow cX3_copyRow 2 none ∈ qT := qT_in (List.mem_of_getElem? (i := 330) (by decide +kernel)) (by decide +kernel)
theorem qw331 : Cond.methodLink RX3 10 arraycopyName ∈ qT := qT_in (List.mem_of_getElem? (i := 331) (by decide +kernel)) (by decide +kernel)
theorem qw332 : Cond.static arraycopyName ∈ qT := qT_in (List.mem_of_getElem? (i := 332) (by decide +kernel)) (by decide +kernel)
theorem qw333 : Cond.native arraycopyName ∈ qT := qT_in (List.mem_of_getElem? (i := 333) (by decide +kernel)) (by decide +kernel)
theorem qw334 : Cond.methodLink RX5 54 arraycopyName ∈ qT := qT_in (List.mem_of_getElem? (i := 334) (by decide +kernel)) (by decide +kernel)
theorem qw335 : Cond.methodLink RX6 41 yX2_copyFrom ∈ qT := qT_in (List.mem_of_getElem? (i := 335) (by decide +kernel)) (by decide +kernel)
theorem qw336 : Cond.instanceMethod yX2_copyFrom ∈ qT := qT_in (List.mem_of_getElem? (i := 336) (by decide +kernel)) (by decide +kernel)
theorem qw337 : Cond.selects RX2 yX2_copyFrom yX2_copyFrom ∈ qT := qT_in (List.mem_of_getElem? (i := 337) (by decide +kernel)) (by decide +kernel)
theorem qw338 : Cond.code yX2_copyFrom cX2_copyFrom 2 none ∈ qT := qT_in (List.mem_of_getElem? (i := 338) (by decide +kernel)) (by decide +kernel)
theorem qw339 : Cond.methodLink RX2 51 arraycopyName ∈ qT := qT_in (List.mem_of_getElem? (i := 339) (by decide +kernel)) (by decide +kernel)
theorem qw340 : Cond.methodLink RX2 57 yX7_copyFrom ∈ qT := qT_in (List.mem_of_getElem? (i := 340) (by decide +kernel)) (by decide +kernel)
theorem qw341 : Cond.instanceMethod yX7_copyFrom ∈ qT := qT_in (List.mem_of_getElem? (i := 341) (by decide +kernel)) (by decide +kernel)
theorem qw342 : Cond.selects RX7 yX7_copyFrom yX7_copyFrom ∈ qT := qT_in (List.mem_of_getElem? (i := 342) (by decide +kernel)) (by decide +kernel)
theorem qw343 : Cond.code yX7_copyFrom cX7_copyFrom 3 none ∈ qT := qT_in (List.mem_of_getElem? (i := 343) (by decide +kernel)) (by decide +kernel)
theorem qw344 : Cond.methodLink RX7 26 arraycopyName ∈ qT := qT_in (List.mem_of_getElem? (i := 344) (by decide +kernel)) (by decide +kernel)
theorem qw345 : Cond.methodLink RX7 32 yX3_copyRow ∈ qT := qT_in (List.mem_of_getElem? (i := 345) (by decide +kernel)) (by decide +kernel)
theorem qw346 : Cond.methodLink RX6 44 yX0_copyFrom ∈ qT := qT_in (List.mem_of_getElem? (i := 346) (by decide +kernel)) (by decide +kernel)
theorem qw347 : Cond.instanceMethod yX0_copyFrom ∈ qT := qT_in (List.mem_of_getElem? (i := 347) (by decide +kernel)) (by decide +kernel)
theorem qw348 : Cond.selects RX0 yX0_copyFrom yX0_copyFrom ∈ qT := qT_in (List.mem_of_getElem? (i := 348) (by decide +kernel)) (by decide +kernel)
theorem qw349 : Cond.code yX0_copyFrom cX0_copyFrom 2 none ∈ qT := qT_in (List.mem_of_getElem? (i := 349) (by decide +kernel)) (by decide +kernel)
theorem qw350 : Cond.methodLink RX0 19 arraycopyName ∈ qT := qT_in (List.mem_of_getElem? (i := 350) (by decide +kernel)) (by decide +kernel)
theorem qw351 : Cond.methodLink RX8 243 yX8_keepNextPlace ∈ qT := qT_in (List.mem_of_getElem? (i := 351) (by decide +kernel)) (by decide +kernel)
theorem qw353 : Cond.instanceMethod yX8_keepNextPlace ∈ qT := qT_in (List.mem_of_getElem? (i := 353) (by decide +kernel)) (by decide +kernel)
theorem qw354 : Cond.code yX8_keepNextPlace cX8_keepNextPlace 1 none ∈ qT := qT_in (List.mem_of_getElem? (i := 354) (by decide +kernel)) (by decide +kernel)
theorem qw355 : Cond.methodLink RX8 266 Lib.Math.min.name ∈ qT := qT_in (List.mem_of_getElem? (i := 355) (by decide +kernel)) (by decide +kernel)
theorem qw356 : Cond.static Lib.Math.min.name ∈ qT := qT_in (List.mem_of_getElem? (i := 356) (by decide +kernel)) (by decide +kernel)
theorem qw357 : Cond.code Lib.Math.min.name Lib.Math.min.code 2 (some .int) ∈ qT := qT_in (List.mem_of_getElem? (i := 357) (by decide +kernel)) (by decide +kernel)
theorem qw358 : Cond.methodLink RX8 76 yX5_step ∈ qT := qT_in (List.mem_of_getElem? (i := 358) (by decide +kernel)) (by decide +kernel)
theorem qw359 : Cond.instanceMethod yX5_step ∈ qT := qT_in (List.mem_of_getElem? (i := 359) (by decide +kernel)) (by decide +kernel)
theorem qw360 : Cond.selects RX5 yX5_step yX5_step ∈ qT := qT_in (List.mem_of_getElem? (i := 360) (by decide +kernel)) (by decide +kernel)
theorem qw361 : Cond.code yX5_step cX5_step 1 none ∈ qT := qT_in (List.mem_of_getElem? (i := 361) (by decide +kernel)) (by decide +kernel)
theorem qw362 : Cond.methodLink RX5 60 yX3_wrapped ∈ qT := qT_in (List.mem_of_getElem? (i := 362) (by decide +kernel)) (by decide +kernel)
theorem qw363 : Cond.static yX3_wrapped ∈ qT := qT_in (List.mem_of_getElem? (i := 363) (by decide +kernel)) (by decide +kernel)
theorem qw364 : Cond.code yX3_wrapped cX3_wrapped 1 (some .int) ∈ qT := qT_in (List.mem_of_getElem? (i := 364) (by decide +kernel)) (by decide +kernel)
theorem qw365 : Cond.constant RX3 9 (65535) ∈ qT := qT_in (List.mem_of_getElem? (i := 365) (by decide +kernel)) (by decide +kernel)
theorem qw370 : Cond.methodLink RX8 112 yX5_trustedReference ∈ qT := qT_in (List.mem_of_getElem? (i := 370) (by decide +kernel)) (by decide +kernel)
theorem qw371 : Cond.instanceMethod yX5_trustedReference ∈ qT := qT_in (List.mem_of_getElem? (i := 371) (by decide +kernel)) (by decide +kernel)
theorem qw372 : Cond.selects RX5 yX5_trustedReference yX5_trustedReference ∈ qT := qT_in (List.mem_of_getElem? (i := 372) (by decide +kernel)) (by decide +kernel)
theorem qw373 : Cond.code yX5_trustedReference cX5_trustedReference 5 (some .int) ∈ qT := qT_in (List.mem_of_getElem? (i := 373) (by decide +kernel)) (by decide +kernel)
theorem qw374 : Cond.methodLink RX5 64 Lib.Math.max.name ∈ qT := qT_in (List.mem_of_getElem? (i := 374) (by decide +kernel)) (by decide +kernel)
theorem qw375 : Cond.static Lib.Math.max.name ∈ qT := qT_in (List.mem_of_getElem? (i := 375) (by decide +kernel)) (by decide +kernel)
theorem qw376 : Cond.code Lib.Math.max.name Lib.Math.max.code 2 (some .int) ∈ qT := qT_in (List.mem_of_getElem? (i := 376) (by decide +kernel)) (by decide +kernel)
theorem qw381 : Cond.methodLink RX8 130 yX6_deliverPacket ∈ qT := qT_in (List.mem_of_getElem? (i := 381) (by decide +kernel)) (by decide +kernel)
theorem qw382 : Cond.instanceMethod yX6_deliverPacket ∈ qT := qT_in (List.mem_of_getElem? (i := 382) (by decide +kernel)) (by decide +kernel)
theorem qw383 : Cond.selects RX6 yX6_deliverPacket yX6_deliverPacket ∈ qT := qT_in (List.mem_of_getElem? (i := 383) (by decide +kernel)) (by decide +kernel)
theorem qw384 : Cond.code yX6_deliverPacket cX6_deliverPacket 2 (some .int) ∈ qT := qT_in (List.mem_of_getElem? (i := 384) (by decide +kernel)) (by decide +kernel)
theorem qw385 : Cond.methodLink RX6 62 yX0_takeOut ∈ qT := qT_in (List.mem_of_getElem? (i := 385) (by decide +kernel)) (by decide +kernel)
theorem qw386 : Cond.instanceMethod yX0_takeOut ∈ qT := qT_in (List.mem_of_getElem? (i := 386) (by decide +kernel)) (by decide +kernel)
theorem qw387 : Cond.selects RX0 yX0_takeOut yX0_takeOut ∈ qT := qT_in (List.mem_of_getElem? (i := 387) (by decide +kernel)) (by decide +kernel)
theorem qw388 : Cond.code yX0_takeOut cX0_takeOut 3 (some .int) ∈ qT := qT_in (List.mem_of_getElem? (i := 388) (by decide +kernel)) (by decide +kernel)
theorem qw389 : Cond.methodLink RX6 66 yX2_receive ∈ qT := qT_in (List.mem_of_getElem? (i := 389) (by decide +kernel)) (by decide +kernel)
theorem qw390 : Cond.instanceMethod yX2_receive ∈ qT := qT_in (List.mem_of_getElem? (i := 390) (by decide +kernel)) (by decide +kernel)
theorem qw391 : Cond.selects RX2 yX2_receive yX2_receive ∈ qT := qT_in (List.mem_of_getElem? (i := 391) (by decide +kernel)) (by decide +kernel)
theorem qw392 : Cond.code yX2_receive cX2_receive 5 (some .int) ∈ qT := qT_in (List.mem_of_getElem? (i := 392) (by decide +kernel)) (by decide +kernel)
theorem qw393 : Cond.methodLink RX2 67 Lib.Math.max.name ∈ qT := qT_in (List.mem_of_getElem? (i := 393) (by decide +kernel)) (by decide +kernel)
theorem qw394 : Cond.methodLink RX2 75 yX2_numberOf ∈ qT := qT_in (List.mem_of_getElem? (i := 394) (by decide +kernel)) (by decide +kernel)
theorem qw395 : Cond.instanceMethod yX2_numberOf ∈ qT := qT_in (List.mem_of_getElem? (i := 395) (by decide +kernel)) (by decide +kernel)
theorem qw396 : Cond.selects RX2 yX2_numberOf yX2_numberOf ∈ qT := qT_in (List.mem_of_getElem? (i := 396) (by decide +kernel)) (by decide +kernel)
theorem qw397 : Cond.code yX2_numberOf cX2_numberOf 3 (some .int) ∈ qT := qT_in (List.mem_of_getElem? (i := 397) (by decide +kernel)) (by decide +kernel)
theorem qw398 : Cond.methodLink RX2 61 yJ9_floorMod_7cf53 ∈ qT := qT_in (List.mem_of_getElem? (i := 398) (by decide +kernel)) (by decide +kernel)
theorem qw399 : Cond.static yJ9_floorMod_7cf53 ∈ qT := qT_in (List.mem_of_getElem? (i := 399) (by decide +kernel)) (by decide +kernel)
theorem qw400 : Cond.code yJ9_floorMod_7cf53 cJ9_floorMod_7cf53 3 (some .int) ∈ qT := qT_in (List.mem_of_getElem? (i := 400) (by decide +kernel)) (by decide +kernel)
theorem qw401 : Cond.methodLink RX2 79 yX7_has ∈ qT := qT_in (List.mem_of_getElem? (i := 401) (by decide +kernel)) (by decide +kernel)
theorem qw402 : Cond.instanceMethod yX7_has ∈ qT := qT_in (List.mem_of_getElem? (i := 402) (by decide +kernel)) (by decide +kernel)
theorem qw403 : Cond.selects RX7 yX7_has yX7_has ∈ qT := qT_in (List.mem_of_getElem? (i := 403) (by decide +kernel)) (by decide +kernel)
theorem qw404 : Cond.code yX7_has cX7_has 2 (some .boolean) ∈ qT := qT_in (List.mem_of_getElem? (i := 404) (by decide +kernel)) (by decide +kernel)
theorem qw405 : Cond.methodLink RX2 83 yX2_decode ∈ qT := qT_in (List.mem_of_getElem? (i := 405) (by decide +kernel)) (by decide +kernel)
theorem qw407 : Cond.instanceMethod yX2_decode ∈ qT := qT_in (List.mem_of_getElem? (i := 407) (by decide +kernel)) (by decide +kernel)
theorem qw408 : Cond.code yX2_decode cX2_decode 5 (some .boolean) ∈ qT := qT_in (List.mem_of_getElem? (i := 408) (by decide +kernel)) (by decide +kernel)
theorem qw409 : Cond.methodLink RX2 108 yX3_copyRow ∈ qT := qT_in (List.mem_of_getElem? (i := 409) (by decide +kernel)) (by decide +kernel)
theorem qw410 : Cond.methodLink RX2 115 yX7_rowOf ∈ qT := qT_in (List.mem_of_getElem? (i := 410) (by decide +kernel)) (by decide +kernel)
theorem qw411 : Cond.instanceMethod yX7_rowOf ∈ qT := qT_in (List.mem_of_getElem? (i := 411) (by decide +kernel)) (by decide +kernel)
theorem qw412 : Cond.selects RX7 yX7_rowOf yX7_rowOf ∈ qT := qT_in (List.mem_of_getElem? (i := 412) (by decide +kernel)) (by decide +kernel)
theorem qw413 : Cond.code yX7_rowOf cX7_rowOf 2 (some (.array .int)) ∈ qT := qT_in (List.mem_of_getElem? (i := 413) (by decide +kernel)) (by decide +kernel)
theorem qw414 : Cond.methodLink RX7 38 yJ9_floorMod_7cf53 ∈ qT := qT_in (List.mem_of_getElem? (i := 414) (by decide +kernel)) (by decide +kernel)
theorem qw415 : Cond.methodLink RX2 119 yX3_putBase ∈ qT := qT_in (List.mem_of_getElem? (i := 415) (by decide +kernel)) (by decide +kernel)
theorem qw416 : Cond.static yX3_putBase ∈ qT := qT_in (List.mem_of_getElem? (i := 416) (by decide +kernel)) (by decide +kernel)
theorem qw417 : Cond.code yX3_putBase cX3_putBase 4 none ∈ qT := qT_in (List.mem_of_getElem? (i := 417) (by decide +kernel)) (by decide +kernel)
theorem qw418 : Cond.methodLink RX3 16 yX3_wrapped ∈ qT := qT_in (List.mem_of_getElem? (i := 418) (by decide +kernel)) (by decide +kernel)
theorem qw419 : Cond.methodLink RX2 126 yX3_addCarried ∈ qT := qT_in (List.mem_of_getElem? (i := 419) (by decide +kernel)) (by decide +kernel)
theorem qw420 : Cond.static yX3_addCarried ∈ qT := qT_in (List.mem_of_getElem? (i := 420) (by decide +kernel)) (by decide +kernel)
theorem qw421 : Cond.code yX3_addCarried cX3_addCarried 2 none ∈ qT := qT_in (List.mem_of_getElem? (i := 421) (by decide +kernel)) (by decide +kernel)
theorem qw422 : Cond.methodLink RX2 87 yX2_isRight ∈ qT := qT_in (List.mem_of_getElem? (i := 422) (by decide +kernel)) (by decide +kernel)
theorem qw424 : Cond.instanceMethod yX2_isRight ∈ qT := qT_in (List.mem_of_getElem? (i := 424) (by decide +kernel)) (by decide +kernel)
theorem qw425 : Cond.code yX2_isRight cX2_isRight 3 (some .boolean) ∈ qT := qT_in (List.mem_of_getElem? (i := 425) (by decide +kernel)) (by decide +kernel)
theorem qw426 : Cond.methodLink RX2 102 yX3_sameHeader ∈ qT := qT_in (List.mem_of_getElem? (i := 426) (by decide +kernel)) (by decide +kernel)
theorem qw427 : Cond.static yX3_sameHeader ∈ qT := qT_in (List.mem_of_getElem? (i := 427) (by decide +kernel)) (by decide +kernel)
theorem qw428 : Cond.code yX3_sameHeader cX3_sameHeader 3 (some .boolean) ∈ qT := qT_in (List.mem_of_getElem? (i := 428) (by decide +kernel)) (by decide +kernel)
theorem qw429 : Cond.methodLink RX2 90 yX2_missReference ∈ qT := qT_in (List.mem_of_getElem? (i := 429) (by decide +kernel)) (by decide +kernel)
theorem qw431 : Cond.instanceMethod yX2_missReference ∈ qT := qT_in (List.mem_of_getElem? (i := 431) (by decide +kernel)) (by decide +kernel)
theorem qw432 : Cond.code yX2_missReference cX2_missReference 2 none ∈ qT := qT_in (List.mem_of_getElem? (i := 432) (by decide +kernel)) (by decide +kernel)
theorem qw433 : Cond.methodLink RX2 141 yX0_put ∈ qT := qT_in (List.mem_of_getElem? (i := 433) (by decide +kernel)) (by decide +kernel)
theorem qw434 : Cond.instanceMethod yX0_put ∈ qT := qT_in (List.mem_of_getElem? (i := 434) (by decide +kernel)) (by decide +kernel)
theorem qw435 : Cond.selects RX0 yX0_put yX0_put ∈ qT := qT_in (List.mem_of_getElem? (i := 435) (by decide +kernel)) (by decide +kernel)
theorem qw436 : Cond.code yX0_put cX0_put 2 none ∈ qT := qT_in (List.mem_of_getElem? (i := 436) (by decide +kernel)) (by decide +kernel)
theorem qw437 : Cond.methodLink RX0 29 yX0_isFull ∈ qT := qT_in (List.mem_of_getElem? (i := 437) (by decide +kernel)) (by decide +kernel)
theorem qw438 : Cond.instanceMethod yX0_isFull ∈ qT := qT_in (List.mem_of_getElem? (i := 438) (by decide +kernel)) (by decide +kernel)
theorem qw439 : Cond.selects RX0 yX0_isFull yX0_isFull ∈ qT := qT_in (List.mem_of_getElem? (i := 439) (by decide +kernel)) (by decide +kernel)
theorem qw440 : Cond.code yX0_isFull cX0_isFull 1 (some .boolean) ∈ qT := qT_in (List.mem_of_getElem? (i := 440) (by decide +kernel)) (by decide +kernel)
theorem qw441 : Cond.methodLink RX2 94 yX2_keepDecoded ∈ qT := qT_in (List.mem_of_getElem? (i := 441) (by decide +kernel)) (by decide +kernel)
theorem qw443 : Cond.instanceMethod yX2_keepDecoded ∈ qT := qT_in (List.mem_of_getElem? (i := 443) (by decide +kernel)) (by decide +kernel)
theorem qw444 : Cond.code yX2_keepDecoded cX2_keepDecoded 3 none ∈ qT := qT_in (List.mem_of_getElem? (i := 444) (by decide +kernel)) (by decide +kernel)
theorem qw445 : Cond.methodLink RX2 129 yX7_dropUpTo ∈ qT := qT_in (List.mem_of_getElem? (i := 445) (by decide +kernel)) (by decide +kernel)
theorem qw446 : Cond.instanceMethod yX7_dropUpTo ∈ qT := qT_in (List.mem_of_getElem? (i := 446) (by decide +kernel)) (by decide +kernel)
theorem qw447 : Cond.selects RX7 yX7_dropUpTo yX7_dropUpTo ∈ qT := qT_in (List.mem_of_getElem? (i := 447) (by decide +kernel)) (by decide +kernel)
theorem qw448 : Cond.code yX7_dropUpTo cX7_dropUpTo 3 none ∈ qT := qT_in (List.mem_of_getElem? (i := 448) (by decide +kernel)) (by decide +kernel)
theorem qw449 : Cond.methodLink RX2 133 yX7_keep ∈ qT := qT_in (List.mem_of_getElem? (i := 449) (by decide +kernel)) (by decide +kernel)
theorem qw450 : Cond.instanceMethod yX7_keep ∈ qT := qT_in (List.mem_of_getElem? (i := 450) (by decide +kernel)) (by decide +kernel)
theorem qw451 : Cond.selects RX7 yX7_keep yX7_keep ∈ qT := qT_in (List.mem_of_getElem? (i := 451) (by decide +kernel)) (by decide +kernel)
theorem qw452 : Cond.code yX7_keep cX7_keep 4 none ∈ qT := qT_in (List.mem_of_getElem? (i := 452) (by decide +kernel)) (by decide +kernel)
theorem qw453 : Cond.methodLink RX2 137 yX2_decodedPackets ∈ qT := qT_in (List.mem_of_getElem? (i := 453) (by decide +kernel)) (by decide +kernel)
theorem qw454 : Cond.instanceMethod yX2_decodedPackets ∈ qT := qT_in (List.mem_of_getElem? (i := 454) (by decide +kernel)) (by decide +kernel)
theorem qw455 : Cond.selects RX2 yX2_decodedPackets yX2_decodedPackets ∈ qT := qT_in (List.mem_of_getElem? (i := 455) (by decide +kernel)) (by decide +kernel)
theorem qw456 : Cond.code yX2_decodedPackets cX2_decodedPackets 1 (some .int) ∈ qT := qT_in (List.mem_of_getElem? (i := 456) (by decide +kernel)) (by decide +kernel)
theorem qw461 : Cond.methodLink RX8 157 yX8_linkOf ∈ qT := qT_in (List.mem_of_getElem? (i := 461) (by decide +kernel)) (by decide +kernel)
theorem qw463 : Cond.instanceMethod yX8_linkOf ∈ qT := qT_in (List.mem_of_getElem? (i := 463) (by decide +kernel)) (by decide +kernel)
theorem qw464 : Cond.code yX8_linkOf cX8_linkOf 2 (some (.object "HeaderSqueezer$Link")) ∈ qT := qT_in (List.mem_of_getElem? (i := 464) (by decide +kernel)) (by decide +kernel)
theorem qw473 : Cond.methodLink RX8 194 yX7_size ∈ qT := qT_in (List.mem_of_getElem? (i := 473) (by decide +kernel)) (by decide +kernel)
theorem qw474 : Cond.instanceMethod yX7_size ∈ qT := qT_in (List.mem_of_getElem? (i := 474) (by decide +kernel)) (by decide +kernel)
theorem qw475 : Cond.selects RX7 yX7_size yX7_size ∈ qT := qT_in (List.mem_of_getElem? (i := 475) (by decide +kernel)) (by decide +kernel)
theorem qw476 : Cond.code yX7_size cX7_size 3 (some .int) ∈ qT := qT_in (List.mem_of_getElem? (i := 476) (by decide +kernel)) (by decide +kernel)
theorem qw481 : Cond.methodLink RX8 205 yX5_savedBytes ∈ qT := qT_in (List.mem_of_getElem? (i := 481) (by decide +kernel)) (by decide +kernel)
theorem qw482 : Cond.instanceMethod yX5_savedBytes ∈ qT := qT_in (List.mem_of_getElem? (i := 482) (by decide +kernel)) (by decide +kernel)
theorem qw483 : Cond.selects RX5 yX5_savedBytes yX5_savedBytes ∈ qT := qT_in (List.mem_of_getElem? (i := 483) (by decide +kernel)) (by decide +kernel)
theorem qw484 : Cond.code yX5_savedBytes cX5_savedBytes 1 (some .int) ∈ qT := qT_in (List.mem_of_getElem? (i := 484) (by decide +kernel)) (by decide +kernel)
theorem qw501 : Cond.methodLink RX8 220 yX4_readOrders ∈ qT := qT_in (List.mem_of_getElem? (i := 501) (by decide +kernel)) (by decide +kernel)
theorem qw502 : Cond.instanceMethod yX4_readOrders ∈ qT := qT_in (List.mem_of_getElem? (i := 502) (by decide +kernel)) (by decide +kernel)
theorem qw503 : Cond.selects RX4 yX4_readOrders yX4_readOrders ∈ qT := qT_in (List.mem_of_getElem? (i := 503) (by decide +kernel)) (by decide +kernel)
theorem qw504 : Cond.code yX4_readOrders cX4_readOrders 6 (some .int) ∈ qT := qT_in (List.mem_of_getElem? (i := 504) (by decide +kernel)) (by decide +kernel)
theorem qw505 : Cond.methodLink RX4 28 yX4_isPlainLetter ∈ qT := qT_in (List.mem_of_getElem? (i := 505) (by decide +kernel)) (by decide +kernel)
theorem qw506 : Cond.static yX4_isPlainLetter ∈ qT := qT_in (List.mem_of_getElem? (i := 506) (by decide +kernel)) (by decide +kernel)
theorem qw507 : Cond.code yX4_isPlainLetter cX4_isPlainLetter 1 (some .boolean) ∈ qT := qT_in (List.mem_of_getElem? (i := 507) (by decide +kernel)) (by decide +kernel)
theorem qw508 : Cond.methodLink RX4 32 yX4_isNumberedLetter ∈ qT := qT_in (List.mem_of_getElem? (i := 508) (by decide +kernel)) (by decide +kernel)
theorem qw509 : Cond.static yX4_isNumberedLetter ∈ qT := qT_in (List.mem_of_getElem? (i := 509) (by decide +kernel)) (by decide +kernel)
theorem qw510 : Cond.code yX4_isNumberedLetter cX4_isNumberedLetter 1 (some .boolean) ∈ qT := qT_in (List.mem_of_getElem? (i := 510) (by decide +kernel)) (by decide +kernel)
theorem qw511 : Cond.methodLink RX4 35 yX4_isDigit ∈ qT := qT_in (List.mem_of_getElem? (i := 511) (by decide +kernel)) (by decide +kernel)
theorem qw512 : Cond.static yX4_isDigit ∈ qT := qT_in (List.mem_of_getElem? (i := 512) (by decide +kernel)) (by decide +kernel)
theorem qw513 : Cond.code yX4_isDigit cX4_isDigit 1 (some .boolean) ∈ qT := qT_in (List.mem_of_getElem? (i := 513) (by decide +kernel)) (by decide +kernel)
theorem qw515 : Cond.static yX8_inRange ∈ qT := qT_in (List.mem_of_getElem? (i := 515) (by decide +kernel)) (by decide +kernel)
theorem qw516 : Cond.code yX8_inRange cX8_inRange 3 (some .boolean) ∈ qT := qT_in (List.mem_of_getElem? (i := 516) (by decide +kernel)) (by decide +kernel)
theorem qw517 : Cond.methodLink RX4 38 yX4_addOrder ∈ qT := qT_in (List.mem_of_getElem? (i := 517) (by decide +kernel)) (by decide +kernel)
theorem qw519 : Cond.instanceMethod yX4_addOrder ∈ qT := qT_in (List.mem_of_getElem? (i := 519) (by decide +kernel)) (by decide +kernel)
theorem qw520 : Cond.code yX4_addOrder cX4_addOrder 3 none ∈ qT := qT_in (List.mem_of_getElem? (i := 520) (by decide +kernel)) (by decide +kernel)
theorem qw521 : Cond.methodLink RX8 239 yX6_obey ∈ qT := qT_in (List.mem_of_getElem? (i := 521) (by decide +kernel)) (by decide +kernel)
theorem qw522 : Cond.instanceMethod yX6_obey ∈ qT := qT_in (List.mem_of_getElem? (i := 522) (by decide +kernel)) (by decide +kernel)
theorem qw523 : Cond.selects RX6 yX6_obey yX6_obey ∈ qT := qT_in (List.mem_of_getElem? (i := 523) (by decide +kernel)) (by decide +kernel)
theorem qw524 : Cond.code yX6_obey cX6_obey 3 (some .boolean) ∈ qT := qT_in (List.mem_of_getElem? (i := 524) (by decide +kernel)) (by decide +kernel)
theorem qw525 : Cond.methodLink RX6 86 yX6_isPossible ∈ qT := qT_in (List.mem_of_getElem? (i := 525) (by decide +kernel)) (by decide +kernel)
theorem qw527 : Cond.instanceMethod yX6_isPossible ∈ qT := qT_in (List.mem_of_getElem? (i := 527) (by decide +kernel)) (by decide +kernel)
theorem qw528 : Cond.code yX6_isPossible cX6_isPossible 3 (some .boolean) ∈ qT := qT_in (List.mem_of_getElem? (i := 528) (by decide +kernel)) (by decide +kernel)
theorem qw529 : Cond.methodLink RX6 105 yX6_hasRoomFor ∈ qT := qT_in (List.mem_of_getElem? (i := 529) (by decide +kernel)) (by decide +kernel)
theorem qw530 : Cond.instanceMethod yX6_hasRoomFor ∈ qT := qT_in (List.mem_of_getElem? (i := 530) (by decide +kernel)) (by decide +kernel)
theorem qw531 : Cond.selects RX6 yX6_hasRoomFor yX6_hasRoomFor ∈ qT := qT_in (List.mem_of_getElem? (i := 531) (by decide +kernel)) (by decide +kernel)
theorem qw532 : Cond.code yX6_hasRoomFor cX6_hasRoomFor 2 (some .boolean) ∈ qT := qT_in (List.mem_of_getElem? (i := 532) (by decide +kernel)) (by decide +kernel)
theorem qw533 : Cond.methodLink RX6 109 yX0_has ∈ qT := qT_in (List.mem_of_getElem? (i := 533) (by decide +kernel)) (by decide +kernel)
theorem qw534 : Cond.instanceMethod yX0_has ∈ qT := qT_in (List.mem_of_getElem? (i := 534) (by decide +kernel)) (by decide +kernel)
theorem qw535 : Cond.selects RX0 yX0_has yX0_has ∈ qT := qT_in (List.mem_of_getElem? (i := 535) (by decide +kernel)) (by decide +kernel)
theorem qw536 : Cond.code yX0_has cX0_has 2 (some .boolean) ∈ qT := qT_in (List.mem_of_getElem? (i := 536) (by decide +kernel)) (by decide +kernel)
theorem qw538 : Cond.methodLink RX6 112 yX0_isFull ∈ qT := qT_in (List.mem_of_getElem? (i := 538) (by decide +kernel)) (by decide +kernel)
theorem qw539 : Cond.methodLink RX6 90 yX5_step ∈ qT := qT_in (List.mem_of_getElem? (i := 539) (by decide +kernel)) (by decide +kernel)
theorem qw540 : Cond.methodLink RX6 93 yX6_sendNext ∈ qT := qT_in (List.mem_of_getElem? (i := 540) (by decide +kernel)) (by decide +kernel)
theorem qw541 : Cond.instanceMethod yX6_sendNext ∈ qT := qT_in (List.mem_of_getElem? (i := 541) (by decide +kernel)) (by decide +kernel)
theorem qw542 : Cond.selects RX6 yX6_sendNext yX6_sendNext ∈ qT := qT_in (List.mem_of_getElem? (i := 542) (by decide +kernel)) (by decide +kernel)
theorem qw543 : Cond.code yX6_sendNext cX6_sendNext 2 (some .int) ∈ qT := qT_in (List.mem_of_getElem? (i := 543) (by decide +kernel)) (by decide +kernel)
theorem qw544 : Cond.methodLink RX6 54 yX5_sendPresent ∈ qT := qT_in (List.mem_of_getElem? (i := 544) (by decide +kernel)) (by decide +kernel)
theorem qw545 : Cond.instanceMethod yX5_sendPresent ∈ qT := qT_in (List.mem_of_getElem? (i := 545) (by decide +kernel)) (by decide +kernel)
theorem qw546 : Cond.selects RX5 yX5_sendPresent yX5_sendPresent ∈ qT := qT_in (List.mem_of_getElem? (i := 546) (by decide +kernel)) (by decide +kernel)
theorem qw547 : Cond.code yX5_sendPresent cX5_sendPresent 4 (some .int) ∈ qT := qT_in (List.mem_of_getElem? (i := 547) (by decide +kernel)) (by decide +kernel)
theorem qw548 : Cond.methodLink RX5 91 yX5_usedReference ∈ qT := qT_in (List.mem_of_getElem? (i := 548) (by decide +kernel)) (by decide +kernel)
theorem qw549 : Cond.instanceMethod yX5_usedReference ∈ qT := qT_in (List.mem_of_getElem? (i := 549) (by decide +kernel)) (by decide +kernel)
theorem qw550 : Cond.selects RX5 yX5_usedReference yX5_usedReference ∈ qT := qT_in (List.mem_of_getElem? (i := 550) (by decide +kernel)) (by decide +kernel)
theorem qw551 : Cond.code yX5_usedReference cX5_usedReference 3 (some .int) ∈ qT := qT_in (List.mem_of_getElem? (i := 551) (by decide +kernel)) (by decide +kernel)
theorem qw552 : Cond.methodLink RX5 70 yX5_trustedReference ∈ qT := qT_in (List.mem_of_getElem? (i := 552) (by decide +kernel)) (by decide +kernel)
theorem qw553 : Cond.methodLink RX5 94 yX5_sizeFrom ∈ qT := qT_in (List.mem_of_getElem? (i := 553) (by decide +kernel)) (by decide +kernel)
theorem qw554 : Cond.instanceMethod yX5_sizeFrom ∈ qT := qT_in (List.mem_of_getElem? (i := 554) (by decide +kernel)) (by decide +kernel)
theorem qw555 : Cond.selects RX5 yX5_sizeFrom yX5_sizeFrom ∈ qT := qT_in (List.mem_of_getElem? (i := 555) (by decide +kernel)) (by decide +kernel)
theorem qw556 : Cond.code yX5_sizeFrom cX5_sizeFrom 3 (some .int) ∈ qT := qT_in (List.mem_of_getElem? (i := 556) (by decide +kernel)) (by decide +kernel)
theorem qw557 : Cond.methodLink RX5 79 yX3_putBase ∈ qT := qT_in (List.mem_of_getElem? (i := 557) (by decide +kernel)) (by decide +kernel)
theorem qw558 : Cond.methodLink RX5 83 yX3_putCarried ∈ qT := qT_in (List.mem_of_getElem? (i := 558) (by decide +kernel)) (by decide +kernel)
theorem qw559 : Cond.static yX3_putCarried ∈ qT := qT_in (List.mem_of_getElem? (i := 559) (by decide +kernel)) (by decide +kernel)
theorem qw560 : Cond.code yX3_putCarried cX3_putCarried 3 none ∈ qT := qT_in (List.mem_of_getElem? (i := 560) (by decide +kernel)) (by decide +kernel)
theorem qw561 : Cond.methodLink RX3 22 yX3_difference ∈ qT := qT_in (List.mem_of_getElem? (i := 561) (by decide +kernel)) (by decide +kernel)
theorem qw562 : Cond.static yX3_difference ∈ qT := qT_in (List.mem_of_getElem? (i := 562) (by decide +kernel)) (by decide +kernel)
theorem qw563 : Cond.code yX3_difference cX3_difference 2 (some .int) ∈ qT := qT_in (List.mem_of_getElem? (i := 563) (by decide +kernel)) (by decide +kernel)
theorem qw564 : Cond.methodLink RX5 87 yX3_sizeOf ∈ qT := qT_in (List.mem_of_getElem? (i := 564) (by decide +kernel)) (by decide +kernel)
theorem qw565 : Cond.static yX3_sizeOf ∈ qT := qT_in (List.mem_of_getElem? (i := 565) (by decide +kernel)) (by decide +kernel)
theorem qw566 : Cond.code yX3_sizeOf cX3_sizeOf 2 (some .int) ∈ qT := qT_in (List.mem_of_getElem? (i := 566) (by decide +kernel)) (by decide +kernel)
theorem qw567 : Cond.methodLink RX3 26 yX3_bytesOf ∈ qT := qT_in (List.mem_of_getElem? (i := 567) (by decide +kernel)) (by decide +kernel)
theorem qw568 : Cond.static yX3_bytesOf ∈ qT := qT_in (List.mem_of_getElem? (i := 568) (by decide +kernel)) (by decide +kernel)
theorem qw569 : Cond.code yX3_bytesOf cX3_bytesOf 1 (some .int) ∈ qT := qT_in (List.mem_of_getElem? (i := 569) (by decide +kernel)) (by decide +kernel)
theorem qw571 : Cond.methodLink RX6 58 yX0_put ∈ qT := qT_in (List.mem_of_getElem? (i := 571) (by decide +kernel)) (by decide +kernel)
theorem qw572 : Cond.methodLink RX6 96 yX6_deliverPacket ∈ qT := qT_in (List.mem_of_getElem? (i := 572) (by decide +kernel)) (by decide +kernel)
theorem qw573 : Cond.methodLink RX6 102 yX6_deliverMessage ∈ qT := qT_in (List.mem_of_getElem? (i := 573) (by decide +kernel)) (by decide +kernel)
theorem qw574 : Cond.instanceMethod yX6_deliverMessage ∈ qT := qT_in (List.mem_of_getElem? (i := 574) (by decide +kernel)) (by decide +kernel)
theorem qw575 : Cond.selects RX6 yX6_deliverMessage yX6_deliverMessage ∈ qT := qT_in (List.mem_of_getElem? (i := 575) (by decide +kernel)) (by decide +kernel)
theorem qw576 : Cond.code yX6_deliverMessage cX6_deliverMessage 3 (some .int) ∈ qT := qT_in (List.mem_of_getElem? (i := 576) (by decide +kernel)) (by decide +kernel)
theorem qw577 : Cond.methodLink RX6 70 yX5_hear ∈ qT := qT_in (List.mem_of_getElem? (i := 577) (by decide +kernel)) (by decide +kernel)
theorem qw578 : Cond.instanceMethod yX5_hear ∈ qT := qT_in (List.mem_of_getElem? (i := 578) (by decide +kernel)) (by decide +kernel)
theorem qw579 : Cond.selects RX5 yX5_hear yX5_hear ∈ qT := qT_in (List.mem_of_getElem? (i := 579) (by decide +kernel)) (by decide +kernel)
theorem qw580 : Cond.code yX5_hear cX5_hear 2 none ∈ qT := qT_in (List.mem_of_getElem? (i := 580) (by decide +kernel)) (by decide +kernel)
theorem qw586 : Cond.constantLong RX8 254 3061 ∈ qT := qT_in (List.mem_of_getElem? (i := 586) (by decide +kernel)) (by decide +kernel)
theorem qw587 : Cond.methodLink RX8 256 yX8_mixed ∈ qT := qT_in (List.mem_of_getElem? (i := 587) (by decide +kernel)) (by decide +kernel)
theorem qw588 : Cond.static yX8_mixed ∈ qT := qT_in (List.mem_of_getElem? (i := 588) (by decide +kernel)) (by decide +kernel)
theorem qw589 : Cond.code yX8_mixed cX8_mixed 4 (some .long) ∈ qT := qT_in (List.mem_of_getElem? (i := 589) (by decide +kernel)) (by decide +kernel)
theorem qw590 : Cond.constantLong RX8 272 31 ∈ qT := qT_in (List.mem_of_getElem? (i := 590) (by decide +kernel)) (by decide +kernel)
theorem qw591 : Cond.methodLink RX8 260 yX5_digestOn ∈ qT := qT_in (List.mem_of_getElem? (i := 591) (by decide +kernel)) (by decide +kernel)
theorem qw592 : Cond.instanceMethod yX5_digestOn ∈ qT := qT_in (List.mem_of_getElem? (i := 592) (by decide +kernel)) (by decide +kernel)
theorem qw593 : Cond.selects RX5 yX5_digestOn yX5_digestOn ∈ qT := qT_in (List.mem_of_getElem? (i := 593) (by decide +kernel)) (by decide +kernel)
theorem qw594 : Cond.code yX5_digestOn cX5_digestOn 7 (some .long) ∈ qT := qT_in (List.mem_of_getElem? (i := 594) (by decide +kernel)) (by decide +kernel)
theorem qw596 : Cond.methodLink RX5 117 yX5_sentValue ∈ qT := qT_in (List.mem_of_getElem? (i := 596) (by decide +kernel)) (by decide +kernel)
theorem qw597 : Cond.instanceMethod yX5_sentValue ∈ qT := qT_in (List.mem_of_getElem? (i := 597) (by decide +kernel)) (by decide +kernel)
theorem qw598 : Cond.selects RX5 yX5_sentValue yX5_sentValue ∈ qT := qT_in (List.mem_of_getElem? (i := 598) (by decide +kernel)) (by decide +kernel)
theorem qw599 : Cond.code yX5_sentValue cX5_sentValue 3 (some .int) ∈ qT := qT_in (List.mem_of_getElem? (i := 599) (by decide +kernel)) (by decide +kernel)
theorem qw600 : Cond.methodLink RX8 264 yX0_digestOn ∈ qT := qT_in (List.mem_of_getElem? (i := 600) (by decide +kernel)) (by decide +kernel)
theorem qw601 : Cond.instanceMethod yX0_digestOn ∈ qT := qT_in (List.mem_of_getElem? (i := 601) (by decide +kernel)) (by decide +kernel)
theorem qw602 : Cond.selects RX0 yX0_digestOn yX0_digestOn ∈ qT := qT_in (List.mem_of_getElem? (i := 602) (by decide +kernel)) (by decide +kernel)
theorem qw603 : Cond.code yX0_digestOn cX0_digestOn 6 (some .long) ∈ qT := qT_in (List.mem_of_getElem? (i := 603) (by decide +kernel)) (by decide +kernel)
theorem qw605 : Cond.methodLink RX8 265 yX2_digestOn ∈ qT := qT_in (List.mem_of_getElem? (i := 605) (by decide +kernel)) (by decide +kernel)
theorem qw606 : Cond.instanceMethod yX2_digestOn ∈ qT := qT_in (List.mem_of_getElem? (i := 606) (by decide +kernel)) (by decide +kernel)
theorem qw607 : Cond.selects RX2 yX2_digestOn yX2_digestOn ∈ qT := qT_in (List.mem_of_getElem? (i := 607) (by decide +kernel)) (by decide +kernel)
theorem qw608 : Cond.code yX2_digestOn cX2_digestOn 7 (some .long) ∈ qT := qT_in (List.mem_of_getElem? (i := 608) (by decide +kernel)) (by decide +kernel)
theorem qw610 : Cond.methodLink RX2 150 yX7_size ∈ qT := qT_in (List.mem_of_getElem? (i := 610) (by decide +kernel)) (by decide +kernel)
theorem qw611 : Cond.methodLink RX2 153 yX7_valueOf ∈ qT := qT_in (List.mem_of_getElem? (i := 611) (by decide +kernel)) (by decide +kernel)
theorem qw612 : Cond.instanceMethod yX7_valueOf ∈ qT := qT_in (List.mem_of_getElem? (i := 612) (by decide +kernel)) (by decide +kernel)
theorem qw613 : Cond.selects RX7 yX7_valueOf yX7_valueOf ∈ qT := qT_in (List.mem_of_getElem? (i := 613) (by decide +kernel)) (by decide +kernel)
theorem qw614 : Cond.code yX7_valueOf cX7_valueOf 3 (some .int) ∈ qT := qT_in (List.mem_of_getElem? (i := 614) (by decide +kernel)) (by decide +kernel)
theorem qw615 : Cond.methodLink RX7 44 yX7_has ∈ qT := qT_in (List.mem_of_getElem? (i := 615) (by decide +kernel)) (by decide +kernel)
theorem qw616 : Cond.methodLink RX7 48 yX7_rowOf ∈ qT := qT_in (List.mem_of_getElem? (i := 616) (by decide +kernel)) (by decide +kernel)
theorem qw617 : Cond.methodLink RX8 202 yX6_countOf ∈ qT := qT_in (List.mem_of_getElem? (i := 617) (by decide +kernel)) (by decide +kernel)
theorem qw618 : Cond.instanceMethod yX6_countOf ∈ qT := qT_in (List.mem_of_getElem? (i := 618) (by decide +kernel)) (by decide +kernel)
theorem qw619 : Cond.selects RX6 yX6_countOf yX6_countOf ∈ qT := qT_in (List.mem_of_getElem? (i := 619) (by decide +kernel)) (by decide +kernel)
theorem qw620 : Cond.code yX6_countOf cX6_countOf 2 (some .int) ∈ qT := qT_in (List.mem_of_getElem? (i := 620) (by decide +kernel)) (by decide +kernel)
theorem qw621 : Cond.methodLink RX6 73 yX2_decodedPackets ∈ qT := qT_in (List.mem_of_getElem? (i := 621) (by decide +kernel)) (by decide +kernel)
theorem qw631 : Cond.methodLink RX8 32 yX8_inRange ∈ qT := qT_in (List.mem_of_getElem? (i := 631) (by decide +kernel)) (by decide +kernel)
theorem qw700 : Cond.methodLink RX8 43 yX8_fieldMost ∈ qT := qT_in (List.mem_of_getElem? (i := 700) (by decide +kernel)) (by decide +kernel)
theorem qw701 : Cond.static yX8_fieldMost ∈ qT := qT_in (List.mem_of_getElem? (i := 701) (by decide +kernel)) (by decide +kernel)
theorem qw702 : Cond.code yX8_fieldMost cX8_fieldMost 1 (some .int) ∈ qT := qT_in (List.mem_of_getElem? (i := 702) (by decide +kernel)) (by decide +kernel)
theorem qw703 : Cond.constant RX8 271 (65535) ∈ qT := qT_in (List.mem_of_getElem? (i := 703) (by decide +kernel)) (by decide +kernel)
theorem qw744 : Cond.methodLink RX8 79 yX6_hasRoomFor ∈ qT := qT_in (List.mem_of_getElem? (i := 744) (by decide +kernel)) (by decide +kernel)
theorem qw761 : Cond.methodLink RX8 88 yX6_sendNext ∈ qT := qT_in (List.mem_of_getElem? (i := 761) (by decide +kernel)) (by decide +kernel)
theorem qw785 : Cond.methodLink RX8 105 yX5_usedReference ∈ qT := qT_in (List.mem_of_getElem? (i := 785) (by decide +kernel)) (by decide +kernel)
theorem qw786 : Cond.methodLink RX8 109 yX5_sizeFrom ∈ qT := qT_in (List.mem_of_getElem? (i := 786) (by decide +kernel)) (by decide +kernel)
theorem qw796 : Cond.methodLink RX8 122 yX5_sentValue ∈ qT := qT_in (List.mem_of_getElem? (i := 796) (by decide +kernel)) (by decide +kernel)
theorem qw804 : Cond.methodLink RX8 125 yX0_has ∈ qT := qT_in (List.mem_of_getElem? (i := 804) (by decide +kernel)) (by decide +kernel)
theorem qw813 : Cond.methodLink RX8 133 yX0_takeOut ∈ qT := qT_in (List.mem_of_getElem? (i := 813) (by decide +kernel)) (by decide +kernel)
theorem qw821 : Cond.methodLink RX8 136 yX0_isFull ∈ qT := qT_in (List.mem_of_getElem? (i := 821) (by decide +kernel)) (by decide +kernel)
theorem qw823 : Cond.methodLink RX8 145 yX0_put ∈ qT := qT_in (List.mem_of_getElem? (i := 823) (by decide +kernel)) (by decide +kernel)
theorem qw832 : Cond.methodLink RX8 154 yX6_deliverMessage ∈ qT := qT_in (List.mem_of_getElem? (i := 832) (by decide +kernel)) (by decide +kernel)
theorem qw864 : Cond.methodLink RX8 189 yX7_valueOf ∈ qT := qT_in (List.mem_of_getElem? (i := 864) (by decide +kernel)) (by decide +kernel)
theorem qw873 : Cond.methodLink RX8 199 yX2_numberOf ∈ qT := qT_in (List.mem_of_getElem? (i := 873) (by decide +kernel)) (by decide +kernel)
theorem qw902 : Cond.methodLink RX9 1 objectInit ∈ qT := qT_in (List.mem_of_getElem? (i := 902) (by decide +kernel)) (by decide +kernel)
theorem qw903 : Cond.fieldLink RX9 7 "HeaderSqueezerModel" "s" "[I" ∈ qT := qT_in (List.mem_of_getElem? (i := 903) (by decide +kernel)) (by decide +kernel)
theorem qw904 : Cond.fieldLink RX9 13 "HeaderSqueezerModel" "past" "[I" ∈ qT := qT_in (List.mem_of_getElem? (i := 904) (by decide +kernel)) (by decide +kernel)
theorem qw905 : Cond.fieldLink RX9 16 "HeaderSqueezerModel" "aside" "[I" ∈ qT := qT_in (List.mem_of_getElem? (i := 905) (by decide +kernel)) (by decide +kernel)
theorem qw906 : Cond.fieldLink RX9 29 "HeaderSqueezerModel" "pasts" "I" ∈ qT := qT_in (List.mem_of_getElem? (i := 906) (by decide +kernel)) (by decide +kernel)
theorem qw907 : Cond.fieldLink RX9 19 "HeaderSqueezerModel" "text" "[I" ∈ qT := qT_in (List.mem_of_getElem? (i := 907) (by decide +kernel)) (by decide +kernel)
theorem qw908 : Cond.fieldLink RX9 168 "HeaderSqueezerModel" "typed" "I" ∈ qT := qT_in (List.mem_of_getElem? (i := 908) (by decide +kernel)) (by decide +kernel)
theorem qw909 : Cond.fieldLink RX9 25 "HeaderSqueezerModel" "thrown" "I" ∈ qT := qT_in (List.mem_of_getElem? (i := 909) (by decide +kernel)) (by decide +kernel)
theorem qw910 : Cond.fieldLink RX9 22 "HeaderSqueezerModel" "got" "[I" ∈ qT := qT_in (List.mem_of_getElem? (i := 910) (by decide +kernel)) (by decide +kernel)
theorem qw911 : Cond.fieldLink RX9 138 "HeaderSqueezerModel" "answer" "I" ∈ qT := qT_in (List.mem_of_getElem? (i := 911) (by decide +kernel)) (by decide +kernel)
theorem qw912 : Cond.fieldLink RX9 171 "HeaderSqueezerModel" "at" "I" ∈ qT := qT_in (List.mem_of_getElem? (i := 912) (by decide +kernel)) (by decide +kernel)
theorem qw913 : Cond.fieldLink RX9 174 "HeaderSqueezerModel" "letter" "I" ∈ qT := qT_in (List.mem_of_getElem? (i := 913) (by decide +kernel)) (by decide +kernel)
theorem qw914 : Cond.fieldLink RX9 177 "HeaderSqueezerModel" "number" "I" ∈ qT := qT_in (List.mem_of_getElem? (i := 914) (by decide +kernel)) (by decide +kernel)
theorem qw915 : Cond.fieldLink RX9 195 "HeaderSqueezerModel" "h" "J" ∈ qT := qT_in (List.mem_of_getElem? (i := 915) (by decide +kernel)) (by decide +kernel)
theorem qw951 : Cond.methodLink RX9 41 yX9_in ∈ qT := qT_in (List.mem_of_getElem? (i := 951) (by decide +kernel)) (by decide +kernel)
theorem qw952 : Cond.static yX9_in ∈ qT := qT_in (List.mem_of_getElem? (i := 952) (by decide +kernel)) (by decide +kernel)
theorem qw953 : Cond.code yX9_in cX9_in 3 (some .boolean) ∈ qT := qT_in (List.mem_of_getElem? (i := 953) (by decide +kernel)) (by decide +kernel)
theorem qw954 : Cond.methodLink RX9 45 yX9_fails ∈ qT := qT_in (List.mem_of_getElem? (i := 954) (by decide +kernel)) (by decide +kernel)
theorem qw956 : Cond.instanceMethod yX9_fails ∈ qT := qT_in (List.mem_of_getElem? (i := 956) (by decide +kernel)) (by decide +kernel)
theorem qw957 : Cond.code yX9_fails cX9_fails 2 (some .int) ∈ qT := qT_in (List.mem_of_getElem? (i := 957) (by decide +kernel)) (by decide +kernel)
theorem qw958 : Cond.methodLink RX9 48 yX9_greatest ∈ qT := qT_in (List.mem_of_getElem? (i := 958) (by decide +kernel)) (by decide +kernel)
theorem qw959 : Cond.static yX9_greatest ∈ qT := qT_in (List.mem_of_getElem? (i := 959) (by decide +kernel)) (by decide +kernel)
theorem qw960 : Cond.code yX9_greatest cX9_greatest 1 (some .int) ∈ qT := qT_in (List.mem_of_getElem? (i := 960) (by decide +kernel)) (by decide +kernel)
theorem qw961 : Cond.constant RX9 36 (65535) ∈ qT := qT_in (List.mem_of_getElem? (i := 961) (by decide +kernel)) (by decide +kernel)
theorem qw962 : Cond.methodLink RX9 51 yX9_hold ∈ qT := qT_in (List.mem_of_getElem? (i := 962) (by decide +kernel)) (by decide +kernel)
theorem qw964 : Cond.instanceMethod yX9_hold ∈ qT := qT_in (List.mem_of_getElem? (i := 964) (by decide +kernel)) (by decide +kernel)
theorem qw965 : Cond.code yX9_hold cX9_hold 2 none ∈ qT := qT_in (List.mem_of_getElem? (i := 965) (by decide +kernel)) (by decide +kernel)
theorem qw966 : Cond.methodLink RX9 54 yX9_ends ∈ qT := qT_in (List.mem_of_getElem? (i := 966) (by decide +kernel)) (by decide +kernel)
theorem qw968 : Cond.instanceMethod yX9_ends ∈ qT := qT_in (List.mem_of_getElem? (i := 968) (by decide +kernel)) (by decide +kernel)
theorem qw969 : Cond.code yX9_ends cX9_ends 3 (some .int) ∈ qT := qT_in (List.mem_of_getElem? (i := 969) (by decide +kernel)) (by decide +kernel)
theorem qw970 : Cond.methodLink RX9 32 yX9_tells ∈ qT := qT_in (List.mem_of_getElem? (i := 970) (by decide +kernel)) (by decide +kernel)
theorem qw972 : Cond.instanceMethod yX9_tells ∈ qT := qT_in (List.mem_of_getElem? (i := 972) (by decide +kernel)) (by decide +kernel)
theorem qw973 : Cond.code yX9_tells cX9_tells 2 (some .int) ∈ qT := qT_in (List.mem_of_getElem? (i := 973) (by decide +kernel)) (by decide +kernel)
theorem qw982 : Cond.methodLink RX9 57 yX9_isPolicy ∈ qT := qT_in (List.mem_of_getElem? (i := 982) (by decide +kernel)) (by decide +kernel)
theorem qw983 : Cond.static yX9_isPolicy ∈ qT := qT_in (List.mem_of_getElem? (i := 983) (by decide +kernel)) (by decide +kernel)
theorem qw984 : Cond.code yX9_isPolicy cX9_isPolicy 2 (some .boolean) ∈ qT := qT_in (List.mem_of_getElem? (i := 984) (by decide +kernel)) (by decide +kernel)
theorem qw989 : Cond.methodLink RX9 61 yX9_goesOn ∈ qT := qT_in (List.mem_of_getElem? (i := 989) (by decide +kernel)) (by decide +kernel)
theorem qw991 : Cond.instanceMethod yX9_goesOn ∈ qT := qT_in (List.mem_of_getElem? (i := 991) (by decide +kernel)) (by decide +kernel)
theorem qw992 : Cond.code yX9_goesOn cX9_goesOn 1 none ∈ qT := qT_in (List.mem_of_getElem? (i := 992) (by decide +kernel)) (by decide +kernel)
theorem qw993 : Cond.methodLink RX9 37 yX9_modulo ∈ qT := qT_in (List.mem_of_getElem? (i := 993) (by decide +kernel)) (by decide +kernel)
theorem qw994 : Cond.static yX9_modulo ∈ qT := qT_in (List.mem_of_getElem? (i := 994) (by decide +kernel)) (by decide +kernel)
theorem qw995 : Cond.code yX9_modulo cX9_modulo 1 (some .int) ∈ qT := qT_in (List.mem_of_getElem? (i := 995) (by decide +kernel)) (by decide +kernel)
theorem qw1000 : Cond.methodLink RX9 99 yX9_maySend ∈ qT := qT_in (List.mem_of_getElem? (i := 1000) (by decide +kernel)) (by decide +kernel)
theorem qw1002 : Cond.instanceMethod yX9_maySend ∈ qT := qT_in (List.mem_of_getElem? (i := 1002) (by decide +kernel)) (by decide +kernel)
theorem qw1003 : Cond.code yX9_maySend cX9_maySend 2 (some .boolean) ∈ qT := qT_in (List.mem_of_getElem? (i := 1003) (by decide +kernel)) (by decide +kernel)
theorem qw1004 : Cond.methodLink RX9 103 yX9_sends ∈ qT := qT_in (List.mem_of_getElem? (i := 1004) (by decide +kernel)) (by decide +kernel)
theorem qw1006 : Cond.instanceMethod yX9_sends ∈ qT := qT_in (List.mem_of_getElem? (i := 1006) (by decide +kernel)) (by decide +kernel)
theorem qw1007 : Cond.code yX9_sends cX9_sends 6 none ∈ qT := qT_in (List.mem_of_getElem? (i := 1007) (by decide +kernel)) (by decide +kernel)
theorem qw1008 : Cond.methodLink RX9 82 yX9_trusted ∈ qT := qT_in (List.mem_of_getElem? (i := 1008) (by decide +kernel)) (by decide +kernel)
theorem qw1010 : Cond.instanceMethod yX9_trusted ∈ qT := qT_in (List.mem_of_getElem? (i := 1010) (by decide +kernel)) (by decide +kernel)
theorem qw1011 : Cond.code yX9_trusted cX9_trusted 4 (some .int) ∈ qT := qT_in (List.mem_of_getElem? (i := 1011) (by decide +kernel)) (by decide +kernel)
theorem qw1012 : Cond.methodLink RX9 64 yX9_of ∈ qT := qT_in (List.mem_of_getElem? (i := 1012) (by decide +kernel)) (by decide +kernel)
theorem qw1014 : Cond.instanceMethod yX9_of ∈ qT := qT_in (List.mem_of_getElem? (i := 1014) (by decide +kernel)) (by decide +kernel)
theorem qw1015 : Cond.code yX9_of cX9_of 3 (some .int) ∈ qT := qT_in (List.mem_of_getElem? (i := 1015) (by decide +kernel)) (by decide +kernel)
theorem qw1016 : Cond.methodLink RX9 85 yX9_formFor ∈ qT := qT_in (List.mem_of_getElem? (i := 1016) (by decide +kernel)) (by decide +kernel)
theorem qw1018 : Cond.instanceMethod yX9_formFor ∈ qT := qT_in (List.mem_of_getElem? (i := 1018) (by decide +kernel)) (by decide +kernel)
theorem qw1019 : Cond.code yX9_formFor cX9_formFor 3 (some .int) ∈ qT := qT_in (List.mem_of_getElem? (i := 1019) (by decide +kernel)) (by decide +kernel)
theorem qw1020 : Cond.methodLink RX9 88 yX9_sizeOf ∈ qT := qT_in (List.mem_of_getElem? (i := 1020) (by decide +kernel)) (by decide +kernel)
theorem qw1022 : Cond.instanceMethod yX9_sizeOf ∈ qT := qT_in (List.mem_of_getElem? (i := 1022) (by decide +kernel)) (by decide +kernel)
theorem qw1023 : Cond.code yX9_sizeOf cX9_sizeOf 8 (some .int) ∈ qT := qT_in (List.mem_of_getElem? (i := 1023) (by decide +kernel)) (by decide +kernel)
theorem qw1024 : Cond.methodLink RX9 72 yX9_senderBase ∈ qT := qT_in (List.mem_of_getElem? (i := 1024) (by decide +kernel)) (by decide +kernel)
theorem qw1026 : Cond.instanceMethod yX9_senderBase ∈ qT := qT_in (List.mem_of_getElem? (i := 1026) (by decide +kernel)) (by decide +kernel)
theorem qw1027 : Cond.code yX9_senderBase cX9_senderBase 5 (some .int) ∈ qT := qT_in (List.mem_of_getElem? (i := 1027) (by decide +kernel)) (by decide +kernel)
theorem qw1028 : Cond.methodLink RX9 68 yX9_baseOf ∈ qT := qT_in (List.mem_of_getElem? (i := 1028) (by decide +kernel)) (by decide +kernel)
theorem qw1029 : Cond.static yX9_baseOf ∈ qT := qT_in (List.mem_of_getElem? (i := 1029) (by decide +kernel)) (by decide +kernel)
theorem qw1030 : Cond.code yX9_baseOf cX9_baseOf 5 (some .int) ∈ qT := qT_in (List.mem_of_getElem? (i := 1030) (by decide +kernel)) (by decide +kernel)
theorem qw1031 : Cond.methodLink RX9 76 yX9_difference ∈ qT := qT_in (List.mem_of_getElem? (i := 1031) (by decide +kernel)) (by decide +kernel)
theorem qw1032 : Cond.static yX9_difference ∈ qT := qT_in (List.mem_of_getElem? (i := 1032) (by decide +kernel)) (by decide +kernel)
theorem qw1033 : Cond.code yX9_difference cX9_difference 3 (some .int) ∈ qT := qT_in (List.mem_of_getElem? (i := 1033) (by decide +kernel)) (by decide +kernel)
theorem qw1034 : Cond.constant RX9 40 (65536) ∈ qT := qT_in (List.mem_of_getElem? (i := 1034) (by decide +kernel)) (by decide +kernel)
theorem qw1035 : Cond.methodLink RX9 79 yX9_bytesFor ∈ qT := qT_in (List.mem_of_getElem? (i := 1035) (by decide +kernel)) (by decide +kernel)
theorem qw1036 : Cond.static yX9_bytesFor ∈ qT := qT_in (List.mem_of_getElem? (i := 1036) (by decide +kernel)) (by decide +kernel)
theorem qw1037 : Cond.code yX9_bytesFor cX9_bytesFor 1 (some .int) ∈ qT := qT_in (List.mem_of_getElem? (i := 1037) (by decide +kernel)) (by decide +kernel)
theorem qw1038 : Cond.methodLink RX9 91 yX9_puts ∈ qT := qT_in (List.mem_of_getElem? (i := 1038) (by decide +kernel)) (by decide +kernel)
theorem qw1040 : Cond.instanceMethod yX9_puts ∈ qT := qT_in (List.mem_of_getElem? (i := 1040) (by decide +kernel)) (by decide +kernel)
theorem qw1041 : Cond.code yX9_puts cX9_puts 4 none ∈ qT := qT_in (List.mem_of_getElem? (i := 1041) (by decide +kernel)) (by decide +kernel)
theorem qw1042 : Cond.methodLink RX9 95 yX9_joins ∈ qT := qT_in (List.mem_of_getElem? (i := 1042) (by decide +kernel)) (by decide +kernel)
theorem qw1044 : Cond.instanceMethod yX9_joins ∈ qT := qT_in (List.mem_of_getElem? (i := 1044) (by decide +kernel)) (by decide +kernel)
theorem qw1045 : Cond.code yX9_joins cX9_joins 3 none ∈ qT := qT_in (List.mem_of_getElem? (i := 1045) (by decide +kernel)) (by decide +kernel)
theorem qw1066 : Cond.methodLink RX9 106 yX9_told ∈ qT := qT_in (List.mem_of_getElem? (i := 1066) (by decide +kernel)) (by decide +kernel)
theorem qw1068 : Cond.instanceMethod yX9_told ∈ qT := qT_in (List.mem_of_getElem? (i := 1068) (by decide +kernel)) (by decide +kernel)
theorem qw1069 : Cond.code yX9_told cX9_told 3 (some .int) ∈ qT := qT_in (List.mem_of_getElem? (i := 1069) (by decide +kernel)) (by decide +kernel)
theorem qw1074 : Cond.methodLink RX9 141 yX9_delivers ∈ qT := qT_in (List.mem_of_getElem? (i := 1074) (by decide +kernel)) (by decide +kernel)
theorem qw1076 : Cond.instanceMethod yX9_delivers ∈ qT := qT_in (List.mem_of_getElem? (i := 1076) (by decide +kernel)) (by decide +kernel)
theorem qw1077 : Cond.code yX9_delivers cX9_delivers 2 (some .int) ∈ qT := qT_in (List.mem_of_getElem? (i := 1077) (by decide +kernel)) (by decide +kernel)
theorem qw1078 : Cond.methodLink RX9 129 yX9_isIn ∈ qT := qT_in (List.mem_of_getElem? (i := 1078) (by decide +kernel)) (by decide +kernel)
theorem qw1080 : Cond.instanceMethod yX9_isIn ∈ qT := qT_in (List.mem_of_getElem? (i := 1080) (by decide +kernel)) (by decide +kernel)
theorem qw1081 : Cond.code yX9_isIn cX9_isIn 3 (some .boolean) ∈ qT := qT_in (List.mem_of_getElem? (i := 1081) (by decide +kernel)) (by decide +kernel)
theorem qw1082 : Cond.methodLink RX9 132 yX9_takes ∈ qT := qT_in (List.mem_of_getElem? (i := 1082) (by decide +kernel)) (by decide +kernel)
theorem qw1084 : Cond.instanceMethod yX9_takes ∈ qT := qT_in (List.mem_of_getElem? (i := 1084) (by decide +kernel)) (by decide +kernel)
theorem qw1085 : Cond.code yX9_takes cX9_takes 5 (some .int) ∈ qT := qT_in (List.mem_of_getElem? (i := 1085) (by decide +kernel)) (by decide +kernel)
theorem qw1086 : Cond.methodLink RX9 135 yX9_receives ∈ qT := qT_in (List.mem_of_getElem? (i := 1086) (by decide +kernel)) (by decide +kernel)
theorem qw1088 : Cond.instanceMethod yX9_receives ∈ qT := qT_in (List.mem_of_getElem? (i := 1088) (by decide +kernel)) (by decide +kernel)
theorem qw1089 : Cond.code yX9_receives cX9_receives 7 (some .int) ∈ qT := qT_in (List.mem_of_getElem? (i := 1089) (by decide +kernel)) (by decide +kernel)
theorem qw1090 : Cond.methodLink RX9 113 yX9_numberOf ∈ qT := qT_in (List.mem_of_getElem? (i := 1090) (by decide +kernel)) (by decide +kernel)
theorem qw1092 : Cond.instanceMethod yX9_numberOf ∈ qT := qT_in (List.mem_of_getElem? (i := 1092) (by decide +kernel)) (by decide +kernel)
theorem qw1093 : Cond.code yX9_numberOf cX9_numberOf 3 (some .int) ∈ qT := qT_in (List.mem_of_getElem? (i := 1093) (by decide +kernel)) (by decide +kernel)
theorem qw1094 : Cond.methodLink RX9 116 yX9_placeOf ∈ qT := qT_in (List.mem_of_getElem? (i := 1094) (by decide +kernel)) (by decide +kernel)
theorem qw1096 : Cond.instanceMethod yX9_placeOf ∈ qT := qT_in (List.mem_of_getElem? (i := 1096) (by decide +kernel)) (by decide +kernel)
theorem qw1097 : Cond.code yX9_placeOf cX9_placeOf 3 (some .int) ∈ qT := qT_in (List.mem_of_getElem? (i := 1097) (by decide +kernel)) (by decide +kernel)
theorem qw1098 : Cond.methodLink RX9 119 yX9_fails2 ∈ qT := qT_in (List.mem_of_getElem? (i := 1098) (by decide +kernel)) (by decide +kernel)
theorem qw1100 : Cond.instanceMethod yX9_fails2 ∈ qT := qT_in (List.mem_of_getElem? (i := 1100) (by decide +kernel)) (by decide +kernel)
theorem qw1101 : Cond.code yX9_fails2 cX9_fails2 1 (some .int) ∈ qT := qT_in (List.mem_of_getElem? (i := 1101) (by decide +kernel)) (by decide +kernel)
theorem qw1102 : Cond.methodLink RX9 123 yX9_decodes ∈ qT := qT_in (List.mem_of_getElem? (i := 1102) (by decide +kernel)) (by decide +kernel)
theorem qw1104 : Cond.instanceMethod yX9_decodes ∈ qT := qT_in (List.mem_of_getElem? (i := 1104) (by decide +kernel)) (by decide +kernel)
theorem qw1105 : Cond.code yX9_decodes cX9_decodes 10 none ∈ qT := qT_in (List.mem_of_getElem? (i := 1105) (by decide +kernel)) (by decide +kernel)
theorem qw1106 : Cond.methodLink RX9 126 yX9_keeps ∈ qT := qT_in (List.mem_of_getElem? (i := 1106) (by decide +kernel)) (by decide +kernel)
theorem qw1108 : Cond.instanceMethod yX9_keeps ∈ qT := qT_in (List.mem_of_getElem? (i := 1108) (by decide +kernel)) (by decide +kernel)
theorem qw1109 : Cond.code yX9_keeps cX9_keeps 4 none ∈ qT := qT_in (List.mem_of_getElem? (i := 1109) (by decide +kernel)) (by decide +kernel)
theorem qw1110 : Cond.methodLink RX9 109 yX9_drops ∈ qT := qT_in (List.mem_of_getElem? (i := 1110) (by decide +kernel)) (by decide +kernel)
theorem qw1112 : Cond.instanceMethod yX9_drops ∈ qT := qT_in (List.mem_of_getElem? (i := 1112) (by decide +kernel)) (by decide +kernel)
theorem qw1113 : Cond.code yX9_drops cX9_drops 3 none ∈ qT := qT_in (List.mem_of_getElem? (i := 1113) (by decide +kernel)) (by decide +kernel)
theorem qw1114 : Cond.methodLink RX9 144 yX9_done ∈ qT := qT_in (List.mem_of_getElem? (i := 1114) (by decide +kernel)) (by decide +kernel)
theorem qw1116 : Cond.instanceMethod yX9_done ∈ qT := qT_in (List.mem_of_getElem? (i := 1116) (by decide +kernel)) (by decide +kernel)
theorem qw1117 : Cond.code yX9_done cX9_done 2 (some .int) ∈ qT := qT_in (List.mem_of_getElem? (i := 1117) (by decide +kernel)) (by decide +kernel)
theorem qw1126 : Cond.methodLink RX9 147 yX9_loses ∈ qT := qT_in (List.mem_of_getElem? (i := 1126) (by decide +kernel)) (by decide +kernel)
theorem qw1128 : Cond.instanceMethod yX9_loses ∈ qT := qT_in (List.mem_of_getElem? (i := 1128) (by decide +kernel)) (by decide +kernel)
theorem qw1129 : Cond.code yX9_loses cX9_loses 3 (some .int) ∈ qT := qT_in (List.mem_of_getElem? (i := 1129) (by decide +kernel)) (by decide +kernel)
theorem qw1134 : Cond.methodLink RX9 150 yX9_copies ∈ qT := qT_in (List.mem_of_getElem? (i := 1134) (by decide +kernel)) (by decide +kernel)
theorem qw1136 : Cond.instanceMethod yX9_copies ∈ qT := qT_in (List.mem_of_getElem? (i := 1136) (by decide +kernel)) (by decide +kernel)
theorem qw1137 : Cond.code yX9_copies cX9_copies 2 (some .int) ∈ qT := qT_in (List.mem_of_getElem? (i := 1137) (by decide +kernel)) (by decide +kernel)
theorem qw1142 : Cond.methodLink RX9 153 yX9_returns ∈ qT := qT_in (List.mem_of_getElem? (i := 1142) (by decide +kernel)) (by decide +kernel)
theorem qw1144 : Cond.instanceMethod yX9_returns ∈ qT := qT_in (List.mem_of_getElem? (i := 1144) (by decide +kernel)) (by decide +kernel)
theorem qw1145 : Cond.code yX9_returns cX9_returns 2 (some .int) ∈ qT := qT_in (List.mem_of_getElem? (i := 1145) (by decide +kernel)) (by decide +kernel)
theorem qw1170 : Cond.methodLink RX9 156 yX9_recordOf ∈ qT := qT_in (List.mem_of_getElem? (i := 1170) (by decide +kernel)) (by decide +kernel)
theorem qw1172 : Cond.instanceMethod yX9_recordOf ∈ qT := qT_in (List.mem_of_getElem? (i := 1172) (by decide +kernel)) (by decide +kernel)
theorem qw1173 : Cond.code yX9_recordOf cX9_recordOf 4 (some .int) ∈ qT := qT_in (List.mem_of_getElem? (i := 1173) (by decide +kernel)) (by decide +kernel)
theorem qw1178 : Cond.methodLink RX9 159 yX9_keptMany ∈ qT := qT_in (List.mem_of_getElem? (i := 1178) (by decide +kernel)) (by decide +kernel)
theorem qw1180 : Cond.instanceMethod yX9_keptMany ∈ qT := qT_in (List.mem_of_getElem? (i := 1180) (by decide +kernel)) (by decide +kernel)
theorem qw1181 : Cond.code yX9_keptMany cX9_keptMany 3 (some .int) ∈ qT := qT_in (List.mem_of_getElem? (i := 1181) (by decide +kernel)) (by decide +kernel)
theorem qw1190 : Cond.methodLink RX9 162 yX9_counted ∈ qT := qT_in (List.mem_of_getElem? (i := 1190) (by decide +kernel)) (by decide +kernel)
theorem qw1192 : Cond.instanceMethod yX9_counted ∈ qT := qT_in (List.mem_of_getElem? (i := 1192) (by decide +kernel)) (by decide +kernel)
theorem qw1193 : Cond.code yX9_counted cX9_counted 2 (some .int) ∈ qT := qT_in (List.mem_of_getElem? (i := 1193) (by decide +kernel)) (by decide +kernel)
theorem qw1198 : Cond.methodLink RX9 165 yX9_spared ∈ qT := qT_in (List.mem_of_getElem? (i := 1198) (by decide +kernel)) (by decide +kernel)
theorem qw1200 : Cond.instanceMethod yX9_spared ∈ qT := qT_in (List.mem_of_getElem? (i := 1200) (by decide +kernel)) (by decide +kernel)
theorem qw1201 : Cond.code yX9_spared cX9_spared 1 (some .int) ∈ qT := qT_in (List.mem_of_getElem? (i := 1201) (by decide +kernel)) (by decide +kernel)
theorem qw1222 : Cond.methodLink RX9 183 yX9_isOrder ∈ qT := qT_in (List.mem_of_getElem? (i := 1222) (by decide +kernel)) (by decide +kernel)
theorem qw1224 : Cond.instanceMethod yX9_isOrder ∈ qT := qT_in (List.mem_of_getElem? (i := 1224) (by decide +kernel)) (by decide +kernel)
theorem qw1225 : Cond.code yX9_isOrder cX9_isOrder 4 (some .boolean) ∈ qT := qT_in (List.mem_of_getElem? (i := 1225) (by decide +kernel)) (by decide +kernel)
theorem qw1226 : Cond.methodLink RX9 180 yX9_digitHere ∈ qT := qT_in (List.mem_of_getElem? (i := 1226) (by decide +kernel)) (by decide +kernel)
theorem qw1228 : Cond.instanceMethod yX9_digitHere ∈ qT := qT_in (List.mem_of_getElem? (i := 1228) (by decide +kernel)) (by decide +kernel)
theorem qw1229 : Cond.code yX9_digitHere cX9_digitHere 1 (some .int) ∈ qT := qT_in (List.mem_of_getElem? (i := 1229) (by decide +kernel)) (by decide +kernel)
theorem qw1230 : Cond.methodLink RX9 187 yX9_isDone ∈ qT := qT_in (List.mem_of_getElem? (i := 1230) (by decide +kernel)) (by decide +kernel)
theorem qw1232 : Cond.instanceMethod yX9_isDone ∈ qT := qT_in (List.mem_of_getElem? (i := 1232) (by decide +kernel)) (by decide +kernel)
theorem qw1233 : Cond.code yX9_isDone cX9_isDone 1 (some .boolean) ∈ qT := qT_in (List.mem_of_getElem? (i := 1233) (by decide +kernel)) (by decide +kernel)
theorem qw1234 : Cond.methodLink RX9 190 yX9_restore ∈ qT := qT_in (List.mem_of_getElem? (i := 1234) (by decide +kernel)) (by decide +kernel)
theorem qw1236 : Cond.instanceMethod yX9_restore ∈ qT := qT_in (List.mem_of_getElem? (i := 1236) (by decide +kernel)) (by decide +kernel)
theorem qw1237 : Cond.code yX9_restore cX9_restore 2 none ∈ qT := qT_in (List.mem_of_getElem? (i := 1237) (by decide +kernel)) (by decide +kernel)
theorem qw1246 : Cond.constantLong RX9 202 3061 ∈ qT := qT_in (List.mem_of_getElem? (i := 1246) (by decide +kernel)) (by decide +kernel)
theorem qw1247 : Cond.methodLink RX9 199 yX9_mix ∈ qT := qT_in (List.mem_of_getElem? (i := 1247) (by decide +kernel)) (by decide +kernel)
theorem qw1249 : Cond.instanceMethod yX9_mix ∈ qT := qT_in (List.mem_of_getElem? (i := 1249) (by decide +kernel)) (by decide +kernel)
theorem qw1250 : Cond.code yX9_mix cX9_mix 2 none ∈ qT := qT_in (List.mem_of_getElem? (i := 1250) (by decide +kernel)) (by decide +kernel)
theorem qw1251 : Cond.constantLong RX9 193 31 ∈ qT := qT_in (List.mem_of_getElem? (i := 1251) (by decide +kernel)) (by decide +kernel)
theorem qw1252 : Cond.methodLink RX9 204 yX9_mixAll ∈ qT := qT_in (List.mem_of_getElem? (i := 1252) (by decide +kernel)) (by decide +kernel)
theorem qw1254 : Cond.instanceMethod yX9_mixAll ∈ qT := qT_in (List.mem_of_getElem? (i := 1254) (by decide +kernel)) (by decide +kernel)
theorem qw1255 : Cond.code yX9_mixAll cX9_mixAll 4 none ∈ qT := qT_in (List.mem_of_getElem? (i := 1255) (by decide +kernel)) (by decide +kernel)
theorem cb_m128 : (Int8.ofInt (-128)).toInt32 = (-128) := by decide +kernel
theorem cb_m10 : (Int8.ofInt (-10)).toInt32 = (-10) := by decide +kernel
theorem cb_6 : (Int8.ofInt (6)).toInt32 = 6 := by decide +kernel
theorem cb_7 : (Int8.ofInt (7)).toInt32 = 7 := by decide +kernel
theorem cb_8 : (Int8.ofInt (8)).toInt32 = 8 := by decide +kernel
theorem cb_9 : (Int8.ofInt (9)).toInt32 = 9 := by decide +kernel
theorem cb_10 : (Int8.ofInt (10)).toInt32 = 10 := by decide +kernel
theorem cb_11 : (Int8.ofInt (11)).toInt32 = 11 := by decide +kernel
theorem cb_12 : (Int8.ofInt (12)).toInt32 = 12 := by decide +kernel
theorem cb_15 : (Int8.ofInt (15)).toInt32 = 15 := by decide +kernel
theorem cb_16 : (Int8.ofInt (16)).toInt32 = 16 := by decide +kernel
theorem cb_20 : (Int8.ofInt (20)).toInt32 = 20 := by decide +kernel
theorem cb_31 : (Int8.ofInt (31)).toInt32 = 31 := by decide +kernel
theorem cb_48 : (Int8.ofInt (48)).toInt32 = 48 := by decide +kernel
theorem cb_50 : (Int8.ofInt (50)).toInt32 = 50 := by decide +kernel
theorem cb_52 : (Int8.ofInt (52)).toInt32 = 52 := by decide +kernel
theorem cb_53 : (Int8.ofInt (53)).toInt32 = 53 := by decide +kernel
theorem cb_54 : (Int8.ofInt (54)).toInt32 = 54 := by decide +kernel
theorem cb_55 : (Int8.ofInt (55)).toInt32 = 55 := by decide +kernel
theorem cb_56 : (Int8.ofInt (56)).toInt32 = 56 := by decide +kernel
theorem cb_57 : (Int8.ofInt (57)).toInt32 = 57 := by decide +kernel
theorem cb_58 : (Int8.ofInt (58)).toInt32 = 58 := by decide +kernel
theorem cb_59 : (Int8.ofInt (59)).toInt32 = 59 := by decide +kernel
theorem cb_60 : (Int8.ofInt (60)).toInt32 = 60 := by decide +kernel
theorem cb_61 : (Int8.ofInt (61)).toInt32 = 61 := by decide +kernel
theorem cb_62 : (Int8.ofInt (62)).toInt32 = 62 := by decide +kernel
theorem cb_63 : (Int8.ofInt (63)).toInt32 = 63 := by decide +kernel
theorem cb_64 : (Int8.ofInt (64)).toInt32 = 64 := by decide +kernel
theorem cb_65 : (Int8.ofInt (65)).toInt32 = 65 := by decide +kernel
theorem cb_66 : (Int8.ofInt (66)).toInt32 = 66 := by decide +kernel
theorem cb_97 : (Int8.ofInt (97)).toInt32 = 97 := by decide +kernel
theorem cb_99 : (Int8.ofInt (99)).toInt32 = 99 := by decide +kernel
theorem cb_100 : (Int8.ofInt (100)).toInt32 = 100 := by decide +kernel
theorem cb_108 : (Int8.ofInt (108)).toInt32 = 108 := by decide +kernel
theorem cb_110 : (Int8.ofInt (110)).toInt32 = 110 := by decide +kernel
theorem cb_115 : (Int8.ofInt (115)).toInt32 = 115 := by decide +kernel
theorem cb_120 : (Int8.ofInt (120)).toInt32 = 120 := by decide +kernel
theorem cb_127 : (Int8.ofInt (127)).toInt32 = 127 := by decide +kernel
theorem ci_m1 : Int32.ofInt (-1) = (-1) := by decide +kernel
theorem ci_0 : Int32.ofInt (0) = 0 := by decide +kernel
theorem ci_1 : Int32.ofInt (1) = 1 := by decide +kernel
theorem ci_2 : Int32.ofInt (2) = 2 := by decide +kernel
theorem ci_3 : Int32.ofInt (3) = 3 := by decide +kernel
theorem ci_4 : Int32.ofInt (4) = 4 := by decide +kernel
theorem ci_5 : Int32.ofInt (5) = 5 := by decide +kernel
theorem cs_m1000 : (Int16.ofInt (-1000)).toInt32 = (-1000) := by decide +kernel
theorem cs_160 : (Int16.ofInt (160)).toInt32 = 160 := by decide +kernel
theorem cs_255 : (Int16.ofInt (255)).toInt32 = 255 := by decide +kernel
theorem cs_500 : (Int16.ofInt (500)).toInt32 = 500 := by decide +kernel
theorem cs_514 : (Int16.ofInt (514)).toInt32 = 514 := by decide +kernel
theorem cs_999 : (Int16.ofInt (999)).toInt32 = 999 := by decide +kernel
theorem cs_4095 : (Int16.ofInt (4095)).toInt32 = 4095 := by decide +kernel
theorem cs_5514 : (Int16.ofInt (5514)).toInt32 = 5514 := by decide +kernel
theorem cs_16542 : (Int16.ofInt (16542)).toInt32 = 16542 := by decide +kernel
theorem cs_22056 : (Int16.ofInt (22056)).toInt32 = 22056 := by decide +kernel
theorem cs_32767 : (Int16.ofInt (32767)).toInt32 = 32767 := by decide +kernel
theorem inqX0 : ∀ w ∈ wsX00, w ∈ qT := fun w hw => qT_in (inX0 w hw) (List.all_eq_true.mp (by decide +kernel : (wsX00).all goodWord = true) w hw)
theorem inqX1 : ∀ w ∈ wsX10, w ∈ qT := fun w hw => qT_in (inX1 w hw) (List.all_eq_true.mp (by decide +kernel : (wsX10).all goodWord = true) w hw)
theorem inqX2 : ∀ w ∈ wsX20, w ∈ qT := fun w hw => qT_in (inX2 w hw) (List.all_eq_true.mp (by decide +kernel : (wsX20).all goodWord = true) w hw)
theorem inqX3 : ∀ w ∈ wsX30, w ∈ qT := fun w hw => qT_in (inX3 w hw) (List.all_eq_true.mp (by decide +kernel : (wsX30).all goodWord = true) w hw)
theorem inqX4 : ∀ w ∈ wsX40, w ∈ qT := fun w hw => qT_in (inX4 w hw) (List.all_eq_true.mp (by decide +kernel : (wsX40).all goodWord = true) w hw)
theorem inqX5 : ∀ w ∈ wsX50, w ∈ qT := fun w hw => qT_in (inX5 w hw) (List.all_eq_true.mp (by decide +kernel : (wsX50).all goodWord = true) w hw)
theorem inqX6 : ∀ w ∈ wsX60, w ∈ qT := fun w hw => qT_in (inX6 w hw) (List.all_eq_true.mp (by decide +kernel : (wsX60).all goodWord = true) w hw)
theorem inqX7 : ∀ w ∈ wsX70, w ∈ qT := fun w hw => qT_in (inX7 w hw) (List.all_eq_true.mp (by decide +kernel : (wsX70).all goodWord = true) w hw)
theorem inqX8 : ∀ w ∈ wsX80, w ∈ qT := fun w hw => qT_in (inX8 w hw) (List.all_eq_true.mp (by decide +kernel : (wsX80).all goodWord = true) w hw)
theorem inqX9 : ∀ w ∈ wsX90, w ∈ qT := fun w hw => qT_in (inX9 w hw) (List.all_eq_true.mp (by decide +kernel : (wsX90).all goodWord = true) w hw)
def fX0 : Nat → Option (Nat × Nat × FieldType × Bool) := fun n => match n with
  | 9 => some (0, 0, .array .int, true)
  | 15 => some (0, 1, .int, false)
  | _ => none
def kX0 : Nat → Option Int32 := fun _ => none
def jX0 : Nat → Option Int64 := fun _ => none
def nX0 : Nat → Option (Nat × Nat × List Value) := fun _ => none
def fX1 : Nat → Option (Nat × Nat × FieldType × Bool) := fun n => match n with
  | 11 => some (1, 0, .array (.array .int), true)
  | 16 => some (1, 1, .array (.array .int), true)
  | 19 => some (1, 2, .array .int, true)
  | 23 => some (1, 3, .array .int, true)
  | 26 => some (1, 4, .array .int, true)
  | _ => none
def kX1 : Nat → Option Int32 := fun _ => none
def jX1 : Nat → Option Int64 := fun _ => none
def nX1 : Nat → Option (Nat × Nat × List Value) := fun n => match n with
  | 9 => some (99, 0, [])
  | _ => none
def fX2 : Nat → Option (Nat × Nat × FieldType × Bool) := fun n => match n with
  | 9 => some (2, 1, .int, false)
  | 15 => some (2, 2, .int, false)
  | 18 => some (2, 3, .int, false)
  | 21 => some (2, 4, .int, false)
  | 24 => some (2, 5, .int, false)
  | 27 => some (2, 6, .int, false)
  | 30 => some (2, 7, .int, false)
  | 33 => some (2, 8, .array .int, true)
  | 40 => some (2, 9, .object "HeaderSqueezer$Window", true)
  | 44 => some (2, 10, .array .int, true)
  | 47 => some (2, 0, .object "HeaderSqueezer$PacketLog", true)
  | 70 => some (1, 2, .float, false)
  | 98 => some (1, 0, .float, false)
  | 112 => some (1, 3, .float, false)
  | 123 => some (1, 1, .float, false)
  | _ => none
def kX2 : Nat → Option Int32 := fun _ => none
def jX2 : Nat → Option Int64 := fun _ => none
def nX2 : Nat → Option (Nat × Nat × List Value) := fun n => match n with
  | 37 => some (6, 2, [.null, .null])
  | _ => none
def fX3 : Nat → Option (Nat × Nat × FieldType × Bool) := fun _ => none
def kX3 : Nat → Option Int32 := fun n => match n with
  | 9 => some 65535
  | _ => none
def jX3 : Nat → Option Int64 := fun _ => none
def nX3 : Nat → Option (Nat × Nat × List Value) := fun _ => none
def fX4 : Nat → Option (Nat × Nat × FieldType × Bool) := fun n => match n with
  | 9 => some (3, 0, .array .int, true)
  | 15 => some (3, 1, .int, false)
  | 19 => some (3, 2, .array .int, true)
  | 22 => some (3, 3, .array .int, true)
  | 25 => some (3, 4, .int, false)
  | _ => none
def kX4 : Nat → Option Int32 := fun _ => none
def jX4 : Nat → Option Int64 := fun _ => none
def nX4 : Nat → Option (Nat × Nat × List Value) := fun _ => none
def fX5 : Nat → Option (Nat × Nat × FieldType × Bool) := fun n => match n with
  | 9 => some (4, 1, .array .int, true)
  | 15 => some (4, 2, .int, false)
  | 19 => some (4, 3, .int, false)
  | 22 => some (4, 4, .boolean, false)
  | 26 => some (4, 5, .int, false)
  | 29 => some (4, 6, .int, false)
  | 32 => some (4, 7, .int, false)
  | 35 => some (4, 8, .array .int, true)
  | 38 => some (4, 9, .array .int, true)
  | 41 => some (4, 10, .array .int, true)
  | 44 => some (4, 0, .object "HeaderSqueezer$PacketLog", true)
  | 73 => some (1, 0, .float, false)
  | 97 => some (1, 1, .float, false)
  | 100 => some (1, 2, .float, false)
  | 103 => some (1, 3, .float, false)
  | 106 => some (1, 4, .float, false)
  | _ => none
def kX5 : Nat → Option Int32 := fun _ => none
def jX5 : Nat → Option Int64 := fun _ => none
def nX5 : Nat → Option (Nat × Nat × List Value) := fun _ => none
def fX6 : Nat → Option (Nat × Nat × FieldType × Bool) := fun n => match n with
  | 12 => some (5, 2, .object "HeaderSqueezer$Link", true)
  | 18 => some (5, 3, .object "HeaderSqueezer$Link", true)
  | 26 => some (5, 0, .object "HeaderSqueezer$Sender", true)
  | 33 => some (5, 1, .object "HeaderSqueezer$Receiver", true)
  | 47 => some (4, 5, .int, false)
  | 51 => some (0, 1, .int, false)
  | 76 => some (2, 8, .float, false)
  | 80 => some (2, 6, .int, false)
  | 83 => some (4, 6, .int, false)
  | 99 => some (0, 0, .float, false)
  | _ => none
def kX6 : Nat → Option Int32 := fun _ => none
def jX6 : Nat → Option Int64 := fun _ => none
def nX6 : Nat → Option (Nat × Nat × List Value) := fun n => match n with
  | 9 => some (0, 2, [.null, .int 0])
  | 21 => some (4, 11, [.null, .null, .int 0, .int 0, .int 0, .int 0, .int 0, .int 0, .null, .null, .null])
  | 30 => some (2, 11, [.null, .int 0, .int 0, .int 0, .int 0, .int 0, .int 0, .int 0, .null, .null, .null])
  | _ => none
def fX7 : Nat → Option (Nat × Nat × FieldType × Bool) := fun n => match n with
  | 9 => some (6, 0, .array .int, true)
  | 17 => some (6, 1, .array (.array .int), true)
  | _ => none
def kX7 : Nat → Option Int32 := fun _ => none
def jX7 : Nat → Option Int64 := fun _ => none
def nX7 : Nat → Option (Nat × Nat × List Value) := fun n => match n with
  | 15 => some (99, 0, [])
  | _ => none
def fX8 : Nat → Option (Nat × Nat × FieldType × Bool) := fun n => match n with
  | 15 => some (7, 0, .object "HeaderSqueezer$State", true)
  | 21 => some (7, 1, .array (.object "HeaderSqueezer$State"), true)
  | 28 => some (7, 4, .object "HeaderSqueezer$Script", true)
  | 55 => some (5, 0, .float, false)
  | 59 => some (4, 1, .float, false)
  | 69 => some (4, 2, .int, false)
  | 73 => some (4, 3, .int, false)
  | 96 => some (5, 2, .float, false)
  | 100 => some (0, 1, .int, false)
  | 115 => some (4, 5, .int, false)
  | 142 => some (0, 0, .float, false)
  | 149 => some (5, 3, .float, false)
  | 165 => some (5, 1, .float, false)
  | 169 => some (2, 1, .int, false)
  | 174 => some (2, 2, .int, false)
  | 177 => some (2, 3, .int, false)
  | 180 => some (2, 4, .int, false)
  | 185 => some (2, 9, .float, false)
  | 208 => some (2, 7, .int, false)
  | 211 => some (4, 7, .int, false)
  | 214 => some (3, 1, .int, false)
  | 217 => some (3, 0, .float, false)
  | 230 => some (3, 4, .int, false)
  | 233 => some (3, 2, .float, false)
  | 236 => some (3, 3, .float, false)
  | 246 => some (7, 3, .int, false)
  | 251 => some (7, 2, .int, false)
  | _ => none
def kX8 : Nat → Option Int32 := fun n => match n with
  | 271 => some 65535
  | _ => none
def jX8 : Nat → Option Int64 := fun n => match n with
  | 254 => some 3061
  | 272 => some 31
  | _ => none
def nX8 : Nat → Option (Nat × Nat × List Value) := fun n => match n with
  | 7 => some (1, 5, [.null, .null, .null, .null, .null])
  | 10 => some (5, 4, [.null, .null, .null, .null])
  | 25 => some (3, 5, [.null, .int 0, .null, .null, .int 0])
  | _ => none
def fX9 : Nat → Option (Nat × Nat × FieldType × Bool) := fun n => match n with
  | 7 => some (8, 0, .array .int, true)
  | 13 => some (8, 1, .array .int, true)
  | 16 => some (8, 2, .array .int, true)
  | 19 => some (8, 4, .array .int, true)
  | 22 => some (8, 7, .array .int, true)
  | 25 => some (8, 6, .int, false)
  | 29 => some (8, 3, .int, false)
  | 138 => some (8, 8, .int, false)
  | 168 => some (8, 5, .int, false)
  | 171 => some (8, 9, .int, false)
  | 174 => some (8, 10, .int, false)
  | 177 => some (8, 11, .int, false)
  | 195 => some (8, 12, .long, false)
  | _ => none
def kX9 : Nat → Option Int32 := fun n => match n with
  | 36 => some 65535
  | 40 => some 65536
  | _ => none
def jX9 : Nat → Option Int64 := fun n => match n with
  | 193 => some 31
  | 202 => some 3061
  | _ => none
def nX9 : Nat → Option (Nat × Nat × List Value) := fun _ => none
theorem tabX0 : qTab RX0 fX0 kX0 jX0 nX0 := by
  refine ⟨fun idx ci j ty fin h => ?_, fun n v h => ?_, fun n v h => ?_, fun idx ci N t h => ?_⟩
  · unfold fX0 at h
    split at h
    · cases h
      exact ⟨RX0, TX0, 2, tyX0, rfl, by decide, qw124, inqX0, tyX0_ok, nmX0, Or.inr ⟨rfl, rfl, fun _ => rfl⟩⟩
    · cases h
      exact ⟨RX0, TX0, 2, tyX0, rfl, by decide, qw127, inqX0, tyX0_ok, nmX0, Or.inr ⟨rfl, rfl, fun _ => rfl⟩⟩
    · cases h
  · cases h
  · cases h
  · cases h
theorem tabX1 : qTab RX1 fX1 kX1 jX1 nX1 := by
  refine ⟨fun idx ci j ty fin h => ?_, fun n v h => ?_, fun n v h => ?_, fun idx ci N t h => ?_⟩
  · unfold fX1 at h
    split at h
    · cases h
      exact ⟨RX1, TX1, 5, tyX1, rfl, by decide, qw86, inqX1, tyX1_ok, nmX1, Or.inr ⟨rfl, rfl, fun _ => rfl⟩⟩
    · cases h
      exact ⟨RX1, TX1, 5, tyX1, rfl, by decide, qw89, inqX1, tyX1_ok, nmX1, Or.inr ⟨rfl, rfl, fun _ => rfl⟩⟩
    · cases h
      exact ⟨RX1, TX1, 5, tyX1, rfl, by decide, qw92, inqX1, tyX1_ok, nmX1, Or.inr ⟨rfl, rfl, fun _ => rfl⟩⟩
    · cases h
      exact ⟨RX1, TX1, 5, tyX1, rfl, by decide, qw95, inqX1, tyX1_ok, nmX1, Or.inr ⟨rfl, rfl, fun _ => rfl⟩⟩
    · cases h
      exact ⟨RX1, TX1, 5, tyX1, rfl, by decide, qw98, inqX1, tyX1_ok, nmX1, Or.inr ⟨rfl, rfl, fun _ => rfl⟩⟩
    · cases h
  · cases h
  · cases h
  · unfold nX1 at h
    split at h
    · cases h
      exact Or.inl ⟨rfl, qw84⟩
    · cases h
theorem tabX2 : qTab RX2 fX2 kX2 jX2 nX2 := by
  refine ⟨fun idx ci j ty fin h => ?_, fun n v h => ?_, fun n v h => ?_, fun idx ci N t h => ?_⟩
  · unfold fX2 at h
    split at h
    · cases h
      exact ⟨RX2, TX2, 11, tyX2, rfl, by decide, qw206, inqX2, tyX2_ok, nmX2, Or.inr ⟨rfl, rfl, fun _ => rfl⟩⟩
    · cases h
      exact ⟨RX2, TX2, 11, tyX2, rfl, by decide, qw208, inqX2, tyX2_ok, nmX2, Or.inr ⟨rfl, rfl, fun _ => rfl⟩⟩
    · cases h
      exact ⟨RX2, TX2, 11, tyX2, rfl, by decide, qw210, inqX2, tyX2_ok, nmX2, Or.inr ⟨rfl, rfl, fun _ => rfl⟩⟩
    · cases h
      exact ⟨RX2, TX2, 11, tyX2, rfl, by decide, qw212, inqX2, tyX2_ok, nmX2, Or.inr ⟨rfl, rfl, fun _ => rfl⟩⟩
    · cases h
      exact ⟨RX2, TX2, 11, tyX2, rfl, by decide, qw214, inqX2, tyX2_ok, nmX2, Or.inr ⟨rfl, rfl, fun _ => rfl⟩⟩
    · cases h
      exact ⟨RX2, TX2, 11, tyX2, rfl, by decide, qw215, inqX2, tyX2_ok, nmX2, Or.inr ⟨rfl, rfl, fun _ => rfl⟩⟩
    · cases h
      exact ⟨RX2, TX2, 11, tyX2, rfl, by decide, qw217, inqX2, tyX2_ok, nmX2, Or.inr ⟨rfl, rfl, fun _ => rfl⟩⟩
    · cases h
      exact ⟨RX2, TX2, 11, tyX2, rfl, by decide, qw219, inqX2, tyX2_ok, nmX2, Or.inr ⟨rfl, rfl, fun _ => rfl⟩⟩
    · cases h
      exact ⟨RX2, TX2, 11, tyX2, rfl, by decide, qw221, inqX2, tyX2_ok, nmX2, Or.inr ⟨rfl, rfl, fun _ => rfl⟩⟩
    · cases h
      exact ⟨RX2, TX2, 11, tyX2, rfl, by decide, qw223, inqX2, tyX2_ok, nmX2, Or.inr ⟨rfl, rfl, fun _ => rfl⟩⟩
    · cases h
      exact ⟨RX2, TX2, 11, tyX2, rfl, by decide, qw205, inqX2, tyX2_ok, nmX2, Or.inr ⟨rfl, rfl, fun _ => rfl⟩⟩
    · cases h
      exact ⟨RX1, TX1, 5, tyX1, rfl, by decide, qw93, inqX1, tyX1_ok, nmX1, Or.inl rfl⟩
    · cases h
      exact ⟨RX1, TX1, 5, tyX1, rfl, by decide, qw87, inqX1, tyX1_ok, nmX1, Or.inl rfl⟩
    · cases h
      exact ⟨RX1, TX1, 5, tyX1, rfl, by decide, qw96, inqX1, tyX1_ok, nmX1, Or.inl rfl⟩
    · cases h
      exact ⟨RX1, TX1, 5, tyX1, rfl, by decide, qw90, inqX1, tyX1_ok, nmX1, Or.inl rfl⟩
    · cases h
  · cases h
  · cases h
  · unfold nX2 at h
    split at h
    · cases h
      exact Or.inr ⟨RX7, TX7, tyX7, rfl, qw188, qw189, qw57, inqX7, tyX7_ok, rfl⟩
    · cases h
theorem tabX3 : qTab RX3 fX3 kX3 jX3 nX3 := by
  refine ⟨fun idx ci j ty fin h => ?_, fun n v h => ?_, fun n v h => ?_, fun idx ci N t h => ?_⟩
  · cases h
  · unfold kX3 at h
    split at h
    · cases h
      exact qw365
    · cases h
  · cases h
  · cases h
theorem tabX4 : qTab RX4 fX4 kX4 jX4 nX4 := by
  refine ⟨fun idx ci j ty fin h => ?_, fun n v h => ?_, fun n v h => ?_, fun idx ci N t h => ?_⟩
  · unfold fX4 at h
    split at h
    · cases h
      exact ⟨RX4, TX4, 5, tyX4, rfl, by decide, qw271, inqX4, tyX4_ok, nmX4, Or.inr ⟨rfl, rfl, fun _ => rfl⟩⟩
    · cases h
      exact ⟨RX4, TX4, 5, tyX4, rfl, by decide, qw273, inqX4, tyX4_ok, nmX4, Or.inr ⟨rfl, rfl, fun _ => rfl⟩⟩
    · cases h
      exact ⟨RX4, TX4, 5, tyX4, rfl, by decide, qw275, inqX4, tyX4_ok, nmX4, Or.inr ⟨rfl, rfl, fun _ => rfl⟩⟩
    · cases h
      exact ⟨RX4, TX4, 5, tyX4, rfl, by decide, qw277, inqX4, tyX4_ok, nmX4, Or.inr ⟨rfl, rfl, fun _ => rfl⟩⟩
    · cases h
      exact ⟨RX4, TX4, 5, tyX4, rfl, by decide, qw279, inqX4, tyX4_ok, nmX4, Or.inr ⟨rfl, rfl, fun _ => rfl⟩⟩
    · cases h
  · cases h
  · cases h
  · cases h
theorem tabX5 : qTab RX5 fX5 kX5 jX5 nX5 := by
  refine ⟨fun idx ci j ty fin h => ?_, fun n v h => ?_, fun n v h => ?_, fun idx ci N t h => ?_⟩
  · unfold fX5 at h
    split at h
    · cases h
      exact ⟨RX5, TX5, 11, tyX5, rfl, by decide, qw142, inqX5, tyX5_ok, nmX5, Or.inr ⟨rfl, rfl, fun _ => rfl⟩⟩
    · cases h
      exact ⟨RX5, TX5, 11, tyX5, rfl, by decide, qw144, inqX5, tyX5_ok, nmX5, Or.inr ⟨rfl, rfl, fun _ => rfl⟩⟩
    · cases h
      exact ⟨RX5, TX5, 11, tyX5, rfl, by decide, qw146, inqX5, tyX5_ok, nmX5, Or.inr ⟨rfl, rfl, fun _ => rfl⟩⟩
    · cases h
      exact ⟨RX5, TX5, 11, tyX5, rfl, by decide, qw148, inqX5, tyX5_ok, nmX5, Or.inr ⟨rfl, rfl, fun _ => rfl⟩⟩
    · cases h
      exact ⟨RX5, TX5, 11, tyX5, rfl, by decide, qw149, inqX5, tyX5_ok, nmX5, Or.inr ⟨rfl, rfl, fun _ => rfl⟩⟩
    · cases h
      exact ⟨RX5, TX5, 11, tyX5, rfl, by decide, qw152, inqX5, tyX5_ok, nmX5, Or.inr ⟨rfl, rfl, fun _ => rfl⟩⟩
    · cases h
      exact ⟨RX5, TX5, 11, tyX5, rfl, by decide, qw154, inqX5, tyX5_ok, nmX5, Or.inr ⟨rfl, rfl, fun _ => rfl⟩⟩
    · cases h
      exact ⟨RX5, TX5, 11, tyX5, rfl, by decide, qw156, inqX5, tyX5_ok, nmX5, Or.inr ⟨rfl, rfl, fun _ => rfl⟩⟩
    · cases h
      exact ⟨RX5, TX5, 11, tyX5, rfl, by decide, qw157, inqX5, tyX5_ok, nmX5, Or.inr ⟨rfl, rfl, fun _ => rfl⟩⟩
    · cases h
      exact ⟨RX5, TX5, 11, tyX5, rfl, by decide, qw158, inqX5, tyX5_ok, nmX5, Or.inr ⟨rfl, rfl, fun _ => rfl⟩⟩
    · cases h
      exact ⟨RX5, TX5, 11, tyX5, rfl, by decide, qw141, inqX5, tyX5_ok, nmX5, Or.inr ⟨rfl, rfl, fun _ => rfl⟩⟩
    · cases h
      exact ⟨RX1, TX1, 5, tyX1, rfl, by decide, qw88, inqX1, tyX1_ok, nmX1, Or.inl rfl⟩
    · cases h
      exact ⟨RX1, TX1, 5, tyX1, rfl, by decide, qw91, inqX1, tyX1_ok, nmX1, Or.inl rfl⟩
    · cases h
      exact ⟨RX1, TX1, 5, tyX1, rfl, by decide, qw94, inqX1, tyX1_ok, nmX1, Or.inl rfl⟩
    · cases h
      exact ⟨RX1, TX1, 5, tyX1, rfl, by decide, qw97, inqX1, tyX1_ok, nmX1, Or.inl rfl⟩
    · cases h
      exact ⟨RX1, TX1, 5, tyX1, rfl, by decide, qw99, inqX1, tyX1_ok, nmX1, Or.inl rfl⟩
    · cases h
  · cases h
  · cases h
  · cases h
theorem tabX6 : qTab RX6 fX6 kX6 jX6 nX6 := by
  refine ⟨fun idx ci j ty fin h => ?_, fun n v h => ?_, fun n v h => ?_, fun idx ci N t h => ?_⟩
  · unfold fX6 at h
    split at h
    · cases h
      exact ⟨RX6, TX6, 4, tyX6, rfl, by decide, qw251, inqX6, tyX6_ok, nmX6, Or.inr ⟨rfl, rfl, fun _ => rfl⟩⟩
    · cases h
      exact ⟨RX6, TX6, 4, tyX6, rfl, by decide, qw253, inqX6, tyX6_ok, nmX6, Or.inr ⟨rfl, rfl, fun _ => rfl⟩⟩
    · cases h
      exact ⟨RX6, TX6, 4, tyX6, rfl, by decide, qw247, inqX6, tyX6_ok, nmX6, Or.inr ⟨rfl, rfl, fun _ => rfl⟩⟩
    · cases h
      exact ⟨RX6, TX6, 4, tyX6, rfl, by decide, qw249, inqX6, tyX6_ok, nmX6, Or.inr ⟨rfl, rfl, fun _ => rfl⟩⟩
    · cases h
      exact ⟨RX5, TX5, 11, tyX5, rfl, by decide, qw150, inqX5, tyX5_ok, nmX5, Or.inr ⟨rfl, rfl, fun h => by cases h⟩⟩
    · cases h
      exact ⟨RX0, TX0, 2, tyX0, rfl, by decide, qw128, inqX0, tyX0_ok, nmX0, Or.inr ⟨rfl, rfl, fun h => by cases h⟩⟩
    · cases h
      exact ⟨RX2, TX2, 11, tyX2, rfl, by decide, qw220, inqX2, tyX2_ok, nmX2, Or.inl rfl⟩
    · cases h
      exact ⟨RX2, TX2, 11, tyX2, rfl, by decide, qw216, inqX2, tyX2_ok, nmX2, Or.inr ⟨rfl, rfl, fun h => by cases h⟩⟩
    · cases h
      exact ⟨RX5, TX5, 11, tyX5, rfl, by decide, qw153, inqX5, tyX5_ok, nmX5, Or.inr ⟨rfl, rfl, fun h => by cases h⟩⟩
    · cases h
      exact ⟨RX0, TX0, 2, tyX0, rfl, by decide, qw125, inqX0, tyX0_ok, nmX0, Or.inl rfl⟩
    · cases h
  · cases h
  · cases h
  · unfold nX6 at h
    split at h
    · cases h
      exact Or.inr ⟨RX0, TX0, tyX0, rfl, qw118, qw119, qw54, inqX0, tyX0_ok, rfl⟩
    · cases h
      exact Or.inr ⟨RX5, TX5, tyX5, rfl, qw135, qw136, qw55, inqX5, tyX5_ok, rfl⟩
    · cases h
      exact Or.inr ⟨RX2, TX2, tyX2, rfl, qw182, qw183, qw56, inqX2, tyX2_ok, rfl⟩
    · cases h
theorem tabX7 : qTab RX7 fX7 kX7 jX7 nX7 := by
  refine ⟨fun idx ci j ty fin h => ?_, fun n v h => ?_, fun n v h => ?_, fun idx ci N t h => ?_⟩
  · unfold fX7 at h
    split at h
    · cases h
      exact ⟨RX7, TX7, 2, tyX7, rfl, by decide, qw198, inqX7, tyX7_ok, nmX7, Or.inr ⟨rfl, rfl, fun _ => rfl⟩⟩
    · cases h
      exact ⟨RX7, TX7, 2, tyX7, rfl, by decide, qw199, inqX7, tyX7_ok, nmX7, Or.inr ⟨rfl, rfl, fun _ => rfl⟩⟩
    · cases h
  · cases h
  · cases h
  · unfold nX7 at h
    split at h
    · cases h
      exact Or.inl ⟨rfl, qw194⟩
    · cases h
theorem tabX8 : qTab RX8 fX8 kX8 jX8 nX8 := by
  refine ⟨fun idx ci j ty fin h => ?_, fun n v h => ?_, fun n v h => ?_, fun idx ci N t h => ?_⟩
  · unfold fX8 at h
    split at h
    · cases h
      exact ⟨RX8, TX8, 5, tyX8, rfl, by decide, qw292, inqX8, tyX8_ok, nmX8, Or.inr ⟨rfl, rfl, fun _ => rfl⟩⟩
    · cases h
      exact ⟨RX8, TX8, 5, tyX8, rfl, by decide, qw293, inqX8, tyX8_ok, nmX8, Or.inr ⟨rfl, rfl, fun _ => rfl⟩⟩
    · cases h
      exact ⟨RX8, TX8, 5, tyX8, rfl, by decide, qw296, inqX8, tyX8_ok, nmX8, Or.inr ⟨rfl, rfl, fun _ => rfl⟩⟩
    · cases h
      exact ⟨RX6, TX6, 4, tyX6, rfl, by decide, qw248, inqX6, tyX6_ok, nmX6, Or.inl rfl⟩
    · cases h
      exact ⟨RX5, TX5, 11, tyX5, rfl, by decide, qw143, inqX5, tyX5_ok, nmX5, Or.inl rfl⟩
    · cases h
      exact ⟨RX5, TX5, 11, tyX5, rfl, by decide, qw145, inqX5, tyX5_ok, nmX5, Or.inr ⟨rfl, rfl, fun h => by cases h⟩⟩
    · cases h
      exact ⟨RX5, TX5, 11, tyX5, rfl, by decide, qw147, inqX5, tyX5_ok, nmX5, Or.inr ⟨rfl, rfl, fun h => by cases h⟩⟩
    · cases h
      exact ⟨RX6, TX6, 4, tyX6, rfl, by decide, qw252, inqX6, tyX6_ok, nmX6, Or.inl rfl⟩
    · cases h
      exact ⟨RX0, TX0, 2, tyX0, rfl, by decide, qw129, inqX0, tyX0_ok, nmX0, Or.inr ⟨rfl, rfl, fun h => by cases h⟩⟩
    · cases h
      exact ⟨RX5, TX5, 11, tyX5, rfl, by decide, qw151, inqX5, tyX5_ok, nmX5, Or.inr ⟨rfl, rfl, fun h => by cases h⟩⟩
    · cases h
      exact ⟨RX0, TX0, 2, tyX0, rfl, by decide, qw126, inqX0, tyX0_ok, nmX0, Or.inl rfl⟩
    · cases h
      exact ⟨RX6, TX6, 4, tyX6, rfl, by decide, qw254, inqX6, tyX6_ok, nmX6, Or.inl rfl⟩
    · cases h
      exact ⟨RX6, TX6, 4, tyX6, rfl, by decide, qw250, inqX6, tyX6_ok, nmX6, Or.inl rfl⟩
    · cases h
      exact ⟨RX2, TX2, 11, tyX2, rfl, by decide, qw207, inqX2, tyX2_ok, nmX2, Or.inr ⟨rfl, rfl, fun h => by cases h⟩⟩
    · cases h
      exact ⟨RX2, TX2, 11, tyX2, rfl, by decide, qw209, inqX2, tyX2_ok, nmX2, Or.inr ⟨rfl, rfl, fun h => by cases h⟩⟩
    · cases h
      exact ⟨RX2, TX2, 11, tyX2, rfl, by decide, qw211, inqX2, tyX2_ok, nmX2, Or.inr ⟨rfl, rfl, fun h => by cases h⟩⟩
    · cases h
      exact ⟨RX2, TX2, 11, tyX2, rfl, by decide, qw213, inqX2, tyX2_ok, nmX2, Or.inr ⟨rfl, rfl, fun h => by cases h⟩⟩
    · cases h
      exact ⟨RX2, TX2, 11, tyX2, rfl, by decide, qw222, inqX2, tyX2_ok, nmX2, Or.inl rfl⟩
    · cases h
      exact ⟨RX2, TX2, 11, tyX2, rfl, by decide, qw218, inqX2, tyX2_ok, nmX2, Or.inr ⟨rfl, rfl, fun h => by cases h⟩⟩
    · cases h
      exact ⟨RX5, TX5, 11, tyX5, rfl, by decide, qw155, inqX5, tyX5_ok, nmX5, Or.inr ⟨rfl, rfl, fun h => by cases h⟩⟩
    · cases h
      exact ⟨RX4, TX4, 5, tyX4, rfl, by decide, qw274, inqX4, tyX4_ok, nmX4, Or.inr ⟨rfl, rfl, fun h => by cases h⟩⟩
    · cases h
      exact ⟨RX4, TX4, 5, tyX4, rfl, by decide, qw272, inqX4, tyX4_ok, nmX4, Or.inl rfl⟩
    · cases h
      exact ⟨RX4, TX4, 5, tyX4, rfl, by decide, qw280, inqX4, tyX4_ok, nmX4, Or.inr ⟨rfl, rfl, fun h => by cases h⟩⟩
    · cases h
      exact ⟨RX4, TX4, 5, tyX4, rfl, by decide, qw276, inqX4, tyX4_ok, nmX4, Or.inl rfl⟩
    · cases h
      exact ⟨RX4, TX4, 5, tyX4, rfl, by decide, qw278, inqX4, tyX4_ok, nmX4, Or.inl rfl⟩
    · cases h
      exact ⟨RX8, TX8, 5, tyX8, rfl, by decide, qw295, inqX8, tyX8_ok, nmX8, Or.inr ⟨rfl, rfl, fun _ => rfl⟩⟩
    · cases h
      exact ⟨RX8, TX8, 5, tyX8, rfl, by decide, qw294, inqX8, tyX8_ok, nmX8, Or.inr ⟨rfl, rfl, fun _ => rfl⟩⟩
    · cases h
  · unfold kX8 at h
    split at h
    · cases h
      exact qw703
    · cases h
  · unfold jX8 at h
    split at h
    · cases h
      exact qw586
    · cases h
      exact qw590
    · cases h
  · unfold nX8 at h
    split at h
    · cases h
      exact Or.inr ⟨RX1, TX1, tyX1, rfl, qw78, qw79, qw52, inqX1, tyX1_ok, rfl⟩
    · cases h
      exact Or.inr ⟨RX6, TX6, tyX6, rfl, qw112, qw113, qw53, inqX6, tyX6_ok, rfl⟩
    · cases h
      exact Or.inr ⟨RX4, TX4, tyX4, rfl, qw265, qw266, qw59, inqX4, tyX4_ok, rfl⟩
    · cases h
theorem tabX9 : qTab RX9 fX9 kX9 jX9 nX9 := by
  refine ⟨fun idx ci j ty fin h => ?_, fun n v h => ?_, fun n v h => ?_, fun idx ci N t h => ?_⟩
  · unfold fX9 at h
    split at h
    · cases h
      exact ⟨RX9, TX9, 13, tyX9, rfl, by decide, qw903, inqX9, tyX9_ok, nmX9, Or.inr ⟨rfl, rfl, fun _ => rfl⟩⟩
    · cases h
      exact ⟨RX9, TX9, 13, tyX9, rfl, by decide, qw904, inqX9, tyX9_ok, nmX9, Or.inr ⟨rfl, rfl, fun _ => rfl⟩⟩
    · cases h
      exact ⟨RX9, TX9, 13, tyX9, rfl, by decide, qw905, inqX9, tyX9_ok, nmX9, Or.inr ⟨rfl, rfl, fun _ => rfl⟩⟩
    · cases h
      exact ⟨RX9, TX9, 13, tyX9, rfl, by decide, qw907, inqX9, tyX9_ok, nmX9, Or.inr ⟨rfl, rfl, fun _ => rfl⟩⟩
    · cases h
      exact ⟨RX9, TX9, 13, tyX9, rfl, by decide, qw910, inqX9, tyX9_ok, nmX9, Or.inr ⟨rfl, rfl, fun _ => rfl⟩⟩
    · cases h
      exact ⟨RX9, TX9, 13, tyX9, rfl, by decide, qw909, inqX9, tyX9_ok, nmX9, Or.inr ⟨rfl, rfl, fun _ => rfl⟩⟩
    · cases h
      exact ⟨RX9, TX9, 13, tyX9, rfl, by decide, qw906, inqX9, tyX9_ok, nmX9, Or.inr ⟨rfl, rfl, fun _ => rfl⟩⟩
    · cases h
      exact ⟨RX9, TX9, 13, tyX9, rfl, by decide, qw911, inqX9, tyX9_ok, nmX9, Or.inr ⟨rfl, rfl, fun _ => rfl⟩⟩
    · cases h
      exact ⟨RX9, TX9, 13, tyX9, rfl, by decide, qw908, inqX9, tyX9_ok, nmX9, Or.inr ⟨rfl, rfl, fun _ => rfl⟩⟩
    · cases h
      exact ⟨RX9, TX9, 13, tyX9, rfl, by decide, qw912, inqX9, tyX9_ok, nmX9, Or.inr ⟨rfl, rfl, fun _ => rfl⟩⟩
    · cases h
      exact ⟨RX9, TX9, 13, tyX9, rfl, by decide, qw913, inqX9, tyX9_ok, nmX9, Or.inr ⟨rfl, rfl, fun _ => rfl⟩⟩
    · cases h
      exact ⟨RX9, TX9, 13, tyX9, rfl, by decide, qw914, inqX9, tyX9_ok, nmX9, Or.inr ⟨rfl, rfl, fun _ => rfl⟩⟩
    · cases h
      exact ⟨RX9, TX9, 13, tyX9, rfl, by decide, qw915, inqX9, tyX9_ok, nmX9, Or.inr ⟨rfl, rfl, fun _ => rfl⟩⟩
    · cases h
  · unfold kX9 at h
    split at h
    · cases h
      exact qw961
    · cases h
      exact qw1034
    · cases h
  · unfold jX9 at h
    split at h
    · cases h
      exact qw1251
    · cases h
      exact qw1246
    · cases h
  · cases h
