/-! ===== words, tables (by program: wip/gen) ===== -/
theorem va_AOA_words : Cond.arrayClass .int ∈ qT ∧ Cond.arrayClass .long ∈ qT := ⟨qT_in (List.mem_of_getElem? (i := 69) (by decide +kernel)) (by decide +kernel), qT_in (List.mem_of_getElem? (i := 824) (by decide +kernel)) (by decide +kernel)⟩
theorem qw0 : Cond.selects RX8 yX8_saveState yX8_saveState ∈ qT := qT_in (List.mem_of_getElem? (i := 0) (by decide +kernel)) (by decide +kernel)
theorem qw1 : Cond.selects RX8 yX8_nextPlace yX8_nextPlace ∈ qT := qT_in (List.mem_of_getElem? (i := 1) (by decide +kernel)) (by decide +kernel)
theorem qw2 : Cond.selects RX8 yX8_keepNextPlace yX8_keepNextPlace ∈ qT := qT_in (List.mem_of_getElem? (i := 2) (by decide +kernel)) (by decide +kernel)
theorem qw3 : Cond.selects RX2 yX2_decode yX2_decode ∈ qT := qT_in (List.mem_of_getElem? (i := 3) (by decide +kernel)) (by decide +kernel)
theorem qw4 : Cond.selects RX2 yX2_isRight yX2_isRight ∈ qT := qT_in (List.mem_of_getElem? (i := 4) (by decide +kernel)) (by decide +kernel)
theorem qw5 : Cond.selects RX2 yX2_missReference yX2_missReference ∈ qT := qT_in (List.mem_of_getElem? (i := 5) (by decide +kernel)) (by decide +kernel)
theorem qw6 : Cond.selects RX2 yX2_keepDecoded yX2_keepDecoded ∈ qT := qT_in (List.mem_of_getElem? (i := 6) (by decide +kernel)) (by decide +kernel)
theorem qw8 : Cond.selects RX8 yX8_linkOf yX8_linkOf ∈ qT := qT_in (List.mem_of_getElem? (i := 8) (by decide +kernel)) (by decide +kernel)
theorem qw10 : Cond.initialized RX8 ∈ qT := qT_in (List.mem_of_getElem? (i := 10) (by decide +kernel)) (by decide +kernel)
theorem qw11 : Cond.initialized RX1 ∈ qT := qT_in (List.mem_of_getElem? (i := 11) (by decide +kernel)) (by decide +kernel)
theorem qw12 : Cond.initialized RX6 ∈ qT := qT_in (List.mem_of_getElem? (i := 12) (by decide +kernel)) (by decide +kernel)
theorem qw13 : Cond.initialized RX0 ∈ qT := qT_in (List.mem_of_getElem? (i := 13) (by decide +kernel)) (by decide +kernel)
theorem qw14 : Cond.initialized RX5 ∈ qT := qT_in (List.mem_of_getElem? (i := 14) (by decide +kernel)) (by decide +kernel)
theorem qw15 : Cond.initialized RX2 ∈ qT := qT_in (List.mem_of_getElem? (i := 15) (by decide +kernel)) (by decide +kernel)
theorem qw16 : Cond.initialized RX7 ∈ qT := qT_in (List.mem_of_getElem? (i := 16) (by decide +kernel)) (by decide +kernel)
theorem qw17 : Cond.initialized RJ7 ∈ qT := qT_in (List.mem_of_getElem? (i := 17) (by decide +kernel)) (by decide +kernel)
theorem qw18 : Cond.initialized RX4 ∈ qT := qT_in (List.mem_of_getElem? (i := 18) (by decide +kernel)) (by decide +kernel)
theorem qw24 : Cond.initialized RX3 ∈ qT := qT_in (List.mem_of_getElem? (i := 24) (by decide +kernel)) (by decide +kernel)
theorem qw25 : Cond.initialized "java/lang/System" ∈ qT := qT_in (List.mem_of_getElem? (i := 25) (by decide +kernel)) (by decide +kernel)
theorem qw26 : Cond.initialized "java/lang/Math" ∈ qT := qT_in (List.mem_of_getElem? (i := 26) (by decide +kernel)) (by decide +kernel)
theorem qw33 : Cond.methodLink RX8 1 objectInit ∈ qT := qT_in (List.mem_of_getElem? (i := 33) (by decide +kernel)) (by decide +kernel)
theorem qw34 : Cond.instanceMethod objectInit ∈ qT := qT_in (List.mem_of_getElem? (i := 34) (by decide +kernel)) (by decide +kernel)
theorem qw35 : Cond.code objectInit ⟨#[0xb1]⟩ 1 none ∈ qT := qT_in (List.mem_of_getElem? (i := 35) (by decide +kernel)) (by decide +kernel)
theorem qw36 : Cond.classLink RX8 7 "HeaderSqueezer$PacketLog" ∈ qT := qT_in (List.mem_of_getElem? (i := 36) (by decide +kernel)) (by decide +kernel)
theorem qw37 : Cond.instantiable "HeaderSqueezer$PacketLog" 5 ∈ qT := qT_in (List.mem_of_getElem? (i := 37) (by decide +kernel)) (by decide +kernel)
theorem qw39 : Cond.instanceMethod yX1_init ∈ qT := qT_in (List.mem_of_getElem? (i := 39) (by decide +kernel)) (by decide +kernel)
theorem qw40 : Cond.code yX1_init cX1_init 1 none ∈ qT := qT_in (List.mem_of_getElem? (i := 40) (by decide +kernel)) (by decide +kernel)
theorem qw41 : Cond.methodLink RX1 3 objectInit ∈ qT := qT_in (List.mem_of_getElem? (i := 41) (by decide +kernel)) (by decide +kernel)
theorem qw42 : Cond.classLink RX1 9 "[[I" ∈ qT := qT_in (List.mem_of_getElem? (i := 42) (by decide +kernel)) (by decide +kernel)
theorem qw44 : Cond.fieldLink RX1 11 "HeaderSqueezer$PacketLog" "records" "[[I" ∈ qT := qT_in (List.mem_of_getElem? (i := 44) (by decide +kernel)) (by decide +kernel)
theorem qw45 : Cond.fieldLink RX2 98 "HeaderSqueezer$PacketLog" "records" "[[I" ∈ qT := qT_in (List.mem_of_getElem? (i := 45) (by decide +kernel)) (by decide +kernel)
theorem qw46 : Cond.fieldLink RX5 73 "HeaderSqueezer$PacketLog" "records" "[[I" ∈ qT := qT_in (List.mem_of_getElem? (i := 46) (by decide +kernel)) (by decide +kernel)
theorem qw47 : Cond.fieldLink RX1 16 "HeaderSqueezer$PacketLog" "carried" "[[I" ∈ qT := qT_in (List.mem_of_getElem? (i := 47) (by decide +kernel)) (by decide +kernel)
theorem qw48 : Cond.fieldLink RX2 123 "HeaderSqueezer$PacketLog" "carried" "[[I" ∈ qT := qT_in (List.mem_of_getElem? (i := 48) (by decide +kernel)) (by decide +kernel)
theorem qw49 : Cond.fieldLink RX5 97 "HeaderSqueezer$PacketLog" "carried" "[[I" ∈ qT := qT_in (List.mem_of_getElem? (i := 49) (by decide +kernel)) (by decide +kernel)
theorem qw50 : Cond.fieldLink RX1 19 "HeaderSqueezer$PacketLog" "forms" "[I" ∈ qT := qT_in (List.mem_of_getElem? (i := 50) (by decide +kernel)) (by decide +kernel)
theorem qw51 : Cond.fieldLink RX2 70 "HeaderSqueezer$PacketLog" "forms" "[I" ∈ qT := qT_in (List.mem_of_getElem? (i := 51) (by decide +kernel)) (by decide +kernel)
theorem qw52 : Cond.fieldLink RX5 100 "HeaderSqueezer$PacketLog" "forms" "[I" ∈ qT := qT_in (List.mem_of_getElem? (i := 52) (by decide +kernel)) (by decide +kernel)
theorem qw53 : Cond.fieldLink RX1 23 "HeaderSqueezer$PacketLog" "references" "[I" ∈ qT := qT_in (List.mem_of_getElem? (i := 53) (by decide +kernel)) (by decide +kernel)
theorem qw54 : Cond.fieldLink RX2 112 "HeaderSqueezer$PacketLog" "references" "[I" ∈ qT := qT_in (List.mem_of_getElem? (i := 54) (by decide +kernel)) (by decide +kernel)
theorem qw55 : Cond.fieldLink RX5 103 "HeaderSqueezer$PacketLog" "references" "[I" ∈ qT := qT_in (List.mem_of_getElem? (i := 55) (by decide +kernel)) (by decide +kernel)
theorem qw56 : Cond.fieldLink RX1 26 "HeaderSqueezer$PacketLog" "sizes" "[I" ∈ qT := qT_in (List.mem_of_getElem? (i := 56) (by decide +kernel)) (by decide +kernel)
theorem qw57 : Cond.fieldLink RX5 106 "HeaderSqueezer$PacketLog" "sizes" "[I" ∈ qT := qT_in (List.mem_of_getElem? (i := 57) (by decide +kernel)) (by decide +kernel)
theorem qw70 : Cond.classLink RX8 10 "HeaderSqueezer$State" ∈ qT := qT_in (List.mem_of_getElem? (i := 70) (by decide +kernel)) (by decide +kernel)
theorem qw71 : Cond.instantiable "HeaderSqueezer$State" 4 ∈ qT := qT_in (List.mem_of_getElem? (i := 71) (by decide +kernel)) (by decide +kernel)
theorem qw72 : Cond.methodLink RX8 12 yX6_init ∈ qT := qT_in (List.mem_of_getElem? (i := 72) (by decide +kernel)) (by decide +kernel)
theorem qw73 : Cond.instanceMethod yX6_init ∈ qT := qT_in (List.mem_of_getElem? (i := 73) (by decide +kernel)) (by decide +kernel)
theorem qw74 : Cond.code yX6_init cX6_init 2 none ∈ qT := qT_in (List.mem_of_getElem? (i := 74) (by decide +kernel)) (by decide +kernel)
theorem qw75 : Cond.methodLink RX6 3 objectInit ∈ qT := qT_in (List.mem_of_getElem? (i := 75) (by decide +kernel)) (by decide +kernel)
theorem qw76 : Cond.classLink RX6 9 "HeaderSqueezer$Link" ∈ qT := qT_in (List.mem_of_getElem? (i := 76) (by decide +kernel)) (by decide +kernel)
theorem qw77 : Cond.instantiable "HeaderSqueezer$Link" 2 ∈ qT := qT_in (List.mem_of_getElem? (i := 77) (by decide +kernel)) (by decide +kernel)
theorem qw79 : Cond.instanceMethod yX0_init ∈ qT := qT_in (List.mem_of_getElem? (i := 79) (by decide +kernel)) (by decide +kernel)
theorem qw80 : Cond.code yX0_init cX0_init 1 none ∈ qT := qT_in (List.mem_of_getElem? (i := 80) (by decide +kernel)) (by decide +kernel)
theorem qw81 : Cond.methodLink RX0 3 objectInit ∈ qT := qT_in (List.mem_of_getElem? (i := 81) (by decide +kernel)) (by decide +kernel)
theorem qw82 : Cond.fieldLink RX0 9 "HeaderSqueezer$Link" "items" "[I" ∈ qT := qT_in (List.mem_of_getElem? (i := 82) (by decide +kernel)) (by decide +kernel)
theorem qw83 : Cond.fieldLink RX8 142 "HeaderSqueezer$Link" "items" "[I" ∈ qT := qT_in (List.mem_of_getElem? (i := 83) (by decide +kernel)) (by decide +kernel)
theorem qw84 : Cond.fieldLink RX0 15 "HeaderSqueezer$Link" "length" "I" ∈ qT := qT_in (List.mem_of_getElem? (i := 84) (by decide +kernel)) (by decide +kernel)
theorem qw85 : Cond.fieldLink RX6 51 "HeaderSqueezer$Link" "length" "I" ∈ qT := qT_in (List.mem_of_getElem? (i := 85) (by decide +kernel)) (by decide +kernel)
theorem qw86 : Cond.fieldLink RX8 100 "HeaderSqueezer$Link" "length" "I" ∈ qT := qT_in (List.mem_of_getElem? (i := 86) (by decide +kernel)) (by decide +kernel)
theorem qw92 : Cond.classLink RX6 21 "HeaderSqueezer$Sender" ∈ qT := qT_in (List.mem_of_getElem? (i := 92) (by decide +kernel)) (by decide +kernel)
theorem qw93 : Cond.instantiable "HeaderSqueezer$Sender" 11 ∈ qT := qT_in (List.mem_of_getElem? (i := 93) (by decide +kernel)) (by decide +kernel)
theorem qw94 : Cond.methodLink RX6 23 yX5_init ∈ qT := qT_in (List.mem_of_getElem? (i := 94) (by decide +kernel)) (by decide +kernel)
theorem qw95 : Cond.instanceMethod yX5_init ∈ qT := qT_in (List.mem_of_getElem? (i := 95) (by decide +kernel)) (by decide +kernel)
theorem qw96 : Cond.code yX5_init cX5_init 2 none ∈ qT := qT_in (List.mem_of_getElem? (i := 96) (by decide +kernel)) (by decide +kernel)
theorem qw97 : Cond.methodLink RX5 3 objectInit ∈ qT := qT_in (List.mem_of_getElem? (i := 97) (by decide +kernel)) (by decide +kernel)
theorem qw98 : Cond.fieldLink RX5 44 "HeaderSqueezer$Sender" "log" "LHeaderSqueezer$PacketLog;" ∈ qT := qT_in (List.mem_of_getElem? (i := 98) (by decide +kernel)) (by decide +kernel)
theorem qw99 : Cond.fieldLink RX5 9 "HeaderSqueezer$Sender" "present" "[I" ∈ qT := qT_in (List.mem_of_getElem? (i := 99) (by decide +kernel)) (by decide +kernel)
theorem qw100 : Cond.fieldLink RX8 59 "HeaderSqueezer$Sender" "present" "[I" ∈ qT := qT_in (List.mem_of_getElem? (i := 100) (by decide +kernel)) (by decide +kernel)
theorem qw101 : Cond.fieldLink RX5 15 "HeaderSqueezer$Sender" "policy" "I" ∈ qT := qT_in (List.mem_of_getElem? (i := 101) (by decide +kernel)) (by decide +kernel)
theorem qw102 : Cond.fieldLink RX8 69 "HeaderSqueezer$Sender" "policy" "I" ∈ qT := qT_in (List.mem_of_getElem? (i := 102) (by decide +kernel)) (by decide +kernel)
theorem qw103 : Cond.fieldLink RX5 19 "HeaderSqueezer$Sender" "confidence" "I" ∈ qT := qT_in (List.mem_of_getElem? (i := 103) (by decide +kernel)) (by decide +kernel)
theorem qw104 : Cond.fieldLink RX8 73 "HeaderSqueezer$Sender" "confidence" "I" ∈ qT := qT_in (List.mem_of_getElem? (i := 104) (by decide +kernel)) (by decide +kernel)
theorem qw105 : Cond.fieldLink RX5 22 "HeaderSqueezer$Sender" "repairDue" "Z" ∈ qT := qT_in (List.mem_of_getElem? (i := 105) (by decide +kernel)) (by decide +kernel)
theorem qw106 : Cond.fieldLink RX5 26 "HeaderSqueezer$Sender" "sentPackets" "I" ∈ qT := qT_in (List.mem_of_getElem? (i := 106) (by decide +kernel)) (by decide +kernel)
theorem qw107 : Cond.fieldLink RX6 47 "HeaderSqueezer$Sender" "sentPackets" "I" ∈ qT := qT_in (List.mem_of_getElem? (i := 107) (by decide +kernel)) (by decide +kernel)
theorem qw108 : Cond.fieldLink RX8 115 "HeaderSqueezer$Sender" "sentPackets" "I" ∈ qT := qT_in (List.mem_of_getElem? (i := 108) (by decide +kernel)) (by decide +kernel)
theorem qw109 : Cond.fieldLink RX5 29 "HeaderSqueezer$Sender" "fullPackets" "I" ∈ qT := qT_in (List.mem_of_getElem? (i := 109) (by decide +kernel)) (by decide +kernel)
theorem qw110 : Cond.fieldLink RX6 83 "HeaderSqueezer$Sender" "fullPackets" "I" ∈ qT := qT_in (List.mem_of_getElem? (i := 110) (by decide +kernel)) (by decide +kernel)
theorem qw111 : Cond.fieldLink RX5 32 "HeaderSqueezer$Sender" "sentBytes" "I" ∈ qT := qT_in (List.mem_of_getElem? (i := 111) (by decide +kernel)) (by decide +kernel)
theorem qw112 : Cond.fieldLink RX8 211 "HeaderSqueezer$Sender" "sentBytes" "I" ∈ qT := qT_in (List.mem_of_getElem? (i := 112) (by decide +kernel)) (by decide +kernel)
theorem qw113 : Cond.fieldLink RX5 35 "HeaderSqueezer$Sender" "acknowledged" "[I" ∈ qT := qT_in (List.mem_of_getElem? (i := 113) (by decide +kernel)) (by decide +kernel)
theorem qw114 : Cond.fieldLink RX5 38 "HeaderSqueezer$Sender" "base" "[I" ∈ qT := qT_in (List.mem_of_getElem? (i := 114) (by decide +kernel)) (by decide +kernel)
theorem qw115 : Cond.fieldLink RX5 41 "HeaderSqueezer$Sender" "relation" "[I" ∈ qT := qT_in (List.mem_of_getElem? (i := 115) (by decide +kernel)) (by decide +kernel)
theorem qw139 : Cond.classLink RX6 30 "HeaderSqueezer$Receiver" ∈ qT := qT_in (List.mem_of_getElem? (i := 139) (by decide +kernel)) (by decide +kernel)
theorem qw140 : Cond.instantiable "HeaderSqueezer$Receiver" 11 ∈ qT := qT_in (List.mem_of_getElem? (i := 140) (by decide +kernel)) (by decide +kernel)
theorem qw141 : Cond.methodLink RX6 32 yX2_init ∈ qT := qT_in (List.mem_of_getElem? (i := 141) (by decide +kernel)) (by decide +kernel)
theorem qw142 : Cond.instanceMethod yX2_init ∈ qT := qT_in (List.mem_of_getElem? (i := 142) (by decide +kernel)) (by decide +kernel)
theorem qw143 : Cond.code yX2_init cX2_init 2 none ∈ qT := qT_in (List.mem_of_getElem? (i := 143) (by decide +kernel)) (by decide +kernel)
theorem qw144 : Cond.methodLink RX2 3 objectInit ∈ qT := qT_in (List.mem_of_getElem? (i := 144) (by decide +kernel)) (by decide +kernel)
theorem qw145 : Cond.classLink RX2 37 "HeaderSqueezer$Window" ∈ qT := qT_in (List.mem_of_getElem? (i := 145) (by decide +kernel)) (by decide +kernel)
theorem qw146 : Cond.instantiable "HeaderSqueezer$Window" 2 ∈ qT := qT_in (List.mem_of_getElem? (i := 146) (by decide +kernel)) (by decide +kernel)
theorem qw147 : Cond.methodLink RX2 39 yX7_init ∈ qT := qT_in (List.mem_of_getElem? (i := 147) (by decide +kernel)) (by decide +kernel)
theorem qw148 : Cond.instanceMethod yX7_init ∈ qT := qT_in (List.mem_of_getElem? (i := 148) (by decide +kernel)) (by decide +kernel)
theorem qw149 : Cond.code yX7_init cX7_init 1 none ∈ qT := qT_in (List.mem_of_getElem? (i := 149) (by decide +kernel)) (by decide +kernel)
theorem qw150 : Cond.methodLink RX7 3 objectInit ∈ qT := qT_in (List.mem_of_getElem? (i := 150) (by decide +kernel)) (by decide +kernel)
theorem qw151 : Cond.classLink RX7 15 "[[I" ∈ qT := qT_in (List.mem_of_getElem? (i := 151) (by decide +kernel)) (by decide +kernel)
theorem qw152 : Cond.methodLink RX7 20 yJ7_fill_53178 ∈ qT := qT_in (List.mem_of_getElem? (i := 152) (by decide +kernel)) (by decide +kernel)
theorem qw153 : Cond.static yJ7_fill_53178 ∈ qT := qT_in (List.mem_of_getElem? (i := 153) (by decide +kernel)) (by decide +kernel)
theorem qw154 : Cond.code yJ7_fill_53178 cJ7_fill_53178 4 none ∈ qT := qT_in (List.mem_of_getElem? (i := 154) (by decide +kernel)) (by decide +kernel)
theorem qw155 : Cond.fieldLink RX7 9 "HeaderSqueezer$Window" "numbers" "[I" ∈ qT := qT_in (List.mem_of_getElem? (i := 155) (by decide +kernel)) (by decide +kernel)
theorem qw156 : Cond.fieldLink RX7 17 "HeaderSqueezer$Window" "rows" "[[I" ∈ qT := qT_in (List.mem_of_getElem? (i := 156) (by decide +kernel)) (by decide +kernel)
theorem qw162 : Cond.fieldLink RX2 47 "HeaderSqueezer$Receiver" "log" "LHeaderSqueezer$PacketLog;" ∈ qT := qT_in (List.mem_of_getElem? (i := 162) (by decide +kernel)) (by decide +kernel)
theorem qw163 : Cond.fieldLink RX2 9 "HeaderSqueezer$Receiver" "depth" "I" ∈ qT := qT_in (List.mem_of_getElem? (i := 163) (by decide +kernel)) (by decide +kernel)
theorem qw164 : Cond.fieldLink RX8 169 "HeaderSqueezer$Receiver" "depth" "I" ∈ qT := qT_in (List.mem_of_getElem? (i := 164) (by decide +kernel)) (by decide +kernel)
theorem qw165 : Cond.fieldLink RX2 15 "HeaderSqueezer$Receiver" "interval" "I" ∈ qT := qT_in (List.mem_of_getElem? (i := 165) (by decide +kernel)) (by decide +kernel)
theorem qw166 : Cond.fieldLink RX8 174 "HeaderSqueezer$Receiver" "interval" "I" ∈ qT := qT_in (List.mem_of_getElem? (i := 166) (by decide +kernel)) (by decide +kernel)
theorem qw167 : Cond.fieldLink RX2 18 "HeaderSqueezer$Receiver" "patience" "I" ∈ qT := qT_in (List.mem_of_getElem? (i := 167) (by decide +kernel)) (by decide +kernel)
theorem qw168 : Cond.fieldLink RX8 177 "HeaderSqueezer$Receiver" "patience" "I" ∈ qT := qT_in (List.mem_of_getElem? (i := 168) (by decide +kernel)) (by decide +kernel)
theorem qw169 : Cond.fieldLink RX2 21 "HeaderSqueezer$Receiver" "highest" "I" ∈ qT := qT_in (List.mem_of_getElem? (i := 169) (by decide +kernel)) (by decide +kernel)
theorem qw170 : Cond.fieldLink RX8 180 "HeaderSqueezer$Receiver" "highest" "I" ∈ qT := qT_in (List.mem_of_getElem? (i := 170) (by decide +kernel)) (by decide +kernel)
theorem qw171 : Cond.fieldLink RX2 24 "HeaderSqueezer$Receiver" "unknownInRow" "I" ∈ qT := qT_in (List.mem_of_getElem? (i := 171) (by decide +kernel)) (by decide +kernel)
theorem qw172 : Cond.fieldLink RX2 27 "HeaderSqueezer$Receiver" "requests" "I" ∈ qT := qT_in (List.mem_of_getElem? (i := 172) (by decide +kernel)) (by decide +kernel)
theorem qw173 : Cond.fieldLink RX6 80 "HeaderSqueezer$Receiver" "requests" "I" ∈ qT := qT_in (List.mem_of_getElem? (i := 173) (by decide +kernel)) (by decide +kernel)
theorem qw174 : Cond.fieldLink RX2 30 "HeaderSqueezer$Receiver" "lateness" "I" ∈ qT := qT_in (List.mem_of_getElem? (i := 174) (by decide +kernel)) (by decide +kernel)
theorem qw175 : Cond.fieldLink RX8 208 "HeaderSqueezer$Receiver" "lateness" "I" ∈ qT := qT_in (List.mem_of_getElem? (i := 175) (by decide +kernel)) (by decide +kernel)
theorem qw176 : Cond.fieldLink RX2 33 "HeaderSqueezer$Receiver" "outcomes" "[I" ∈ qT := qT_in (List.mem_of_getElem? (i := 176) (by decide +kernel)) (by decide +kernel)
theorem qw177 : Cond.fieldLink RX6 76 "HeaderSqueezer$Receiver" "outcomes" "[I" ∈ qT := qT_in (List.mem_of_getElem? (i := 177) (by decide +kernel)) (by decide +kernel)
theorem qw178 : Cond.fieldLink RX2 40 "HeaderSqueezer$Receiver" "window" "LHeaderSqueezer$Window;" ∈ qT := qT_in (List.mem_of_getElem? (i := 178) (by decide +kernel)) (by decide +kernel)
theorem qw179 : Cond.fieldLink RX8 185 "HeaderSqueezer$Receiver" "window" "LHeaderSqueezer$Window;" ∈ qT := qT_in (List.mem_of_getElem? (i := 179) (by decide +kernel)) (by decide +kernel)
theorem qw180 : Cond.fieldLink RX2 44 "HeaderSqueezer$Receiver" "decoded" "[I" ∈ qT := qT_in (List.mem_of_getElem? (i := 180) (by decide +kernel)) (by decide +kernel)
theorem qw204 : Cond.fieldLink RX6 26 "HeaderSqueezer$State" "sender" "LHeaderSqueezer$Sender;" ∈ qT := qT_in (List.mem_of_getElem? (i := 204) (by decide +kernel)) (by decide +kernel)
theorem qw205 : Cond.fieldLink RX8 55 "HeaderSqueezer$State" "sender" "LHeaderSqueezer$Sender;" ∈ qT := qT_in (List.mem_of_getElem? (i := 205) (by decide +kernel)) (by decide +kernel)
theorem qw206 : Cond.fieldLink RX6 33 "HeaderSqueezer$State" "receiver" "LHeaderSqueezer$Receiver;" ∈ qT := qT_in (List.mem_of_getElem? (i := 206) (by decide +kernel)) (by decide +kernel)
theorem qw207 : Cond.fieldLink RX8 165 "HeaderSqueezer$State" "receiver" "LHeaderSqueezer$Receiver;" ∈ qT := qT_in (List.mem_of_getElem? (i := 207) (by decide +kernel)) (by decide +kernel)
theorem qw208 : Cond.fieldLink RX6 12 "HeaderSqueezer$State" "forward" "LHeaderSqueezer$Link;" ∈ qT := qT_in (List.mem_of_getElem? (i := 208) (by decide +kernel)) (by decide +kernel)
theorem qw209 : Cond.fieldLink RX8 96 "HeaderSqueezer$State" "forward" "LHeaderSqueezer$Link;" ∈ qT := qT_in (List.mem_of_getElem? (i := 209) (by decide +kernel)) (by decide +kernel)
theorem qw210 : Cond.fieldLink RX6 18 "HeaderSqueezer$State" "back" "LHeaderSqueezer$Link;" ∈ qT := qT_in (List.mem_of_getElem? (i := 210) (by decide +kernel)) (by decide +kernel)
theorem qw211 : Cond.fieldLink RX8 149 "HeaderSqueezer$State" "back" "LHeaderSqueezer$Link;" ∈ qT := qT_in (List.mem_of_getElem? (i := 211) (by decide +kernel)) (by decide +kernel)
theorem qw222 : Cond.classLink RX8 25 "HeaderSqueezer$Script" ∈ qT := qT_in (List.mem_of_getElem? (i := 222) (by decide +kernel)) (by decide +kernel)
theorem qw223 : Cond.instantiable "HeaderSqueezer$Script" 5 ∈ qT := qT_in (List.mem_of_getElem? (i := 223) (by decide +kernel)) (by decide +kernel)
theorem qw225 : Cond.instanceMethod yX4_init ∈ qT := qT_in (List.mem_of_getElem? (i := 225) (by decide +kernel)) (by decide +kernel)
theorem qw226 : Cond.code yX4_init cX4_init 1 none ∈ qT := qT_in (List.mem_of_getElem? (i := 226) (by decide +kernel)) (by decide +kernel)
theorem qw227 : Cond.methodLink RX4 3 objectInit ∈ qT := qT_in (List.mem_of_getElem? (i := 227) (by decide +kernel)) (by decide +kernel)
theorem qw228 : Cond.fieldLink RX4 9 "HeaderSqueezer$Script" "text" "[I" ∈ qT := qT_in (List.mem_of_getElem? (i := 228) (by decide +kernel)) (by decide +kernel)
theorem qw229 : Cond.fieldLink RX4 15 "HeaderSqueezer$Script" "length" "I" ∈ qT := qT_in (List.mem_of_getElem? (i := 229) (by decide +kernel)) (by decide +kernel)
theorem qw230 : Cond.fieldLink RX4 19 "HeaderSqueezer$Script" "letters" "[I" ∈ qT := qT_in (List.mem_of_getElem? (i := 230) (by decide +kernel)) (by decide +kernel)
theorem qw231 : Cond.fieldLink RX4 22 "HeaderSqueezer$Script" "numbers" "[I" ∈ qT := qT_in (List.mem_of_getElem? (i := 231) (by decide +kernel)) (by decide +kernel)
theorem qw232 : Cond.fieldLink RX4 25 "HeaderSqueezer$Script" "orders" "I" ∈ qT := qT_in (List.mem_of_getElem? (i := 232) (by decide +kernel)) (by decide +kernel)
theorem qw244 : Cond.fieldLink RX8 15 "HeaderSqueezer" "now" "LHeaderSqueezer$State;" ∈ qT := qT_in (List.mem_of_getElem? (i := 244) (by decide +kernel)) (by decide +kernel)
theorem qw245 : Cond.fieldLink RX8 21 "HeaderSqueezer" "places" "[LHeaderSqueezer$State;" ∈ qT := qT_in (List.mem_of_getElem? (i := 245) (by decide +kernel)) (by decide +kernel)
theorem qw246 : Cond.fieldLink RX8 251 "HeaderSqueezer" "newest" "I" ∈ qT := qT_in (List.mem_of_getElem? (i := 246) (by decide +kernel)) (by decide +kernel)
theorem qw247 : Cond.fieldLink RX8 246 "HeaderSqueezer" "savedStates" "I" ∈ qT := qT_in (List.mem_of_getElem? (i := 247) (by decide +kernel)) (by decide +kernel)
theorem qw248 : Cond.fieldLink RX8 28 "HeaderSqueezer" "script" "LHeaderSqueezer$Script;" ∈ qT := qT_in (List.mem_of_getElem? (i := 248) (by decide +kernel)) (by decide +kernel)
theorem qw264 : Cond.methodLink RX8 52 yX8_saveState ∈ qT := qT_in (List.mem_of_getElem? (i := 264) (by decide +kernel)) (by decide +kernel)
theorem qw266 : Cond.instanceMethod yX8_saveState ∈ qT := qT_in (List.mem_of_getElem? (i := 266) (by decide +kernel)) (by decide +kernel)
theorem qw267 : Cond.code yX8_saveState cX8_saveState 1 none ∈ qT := qT_in (List.mem_of_getElem? (i := 267) (by decide +kernel)) (by decide +kernel)
theorem qw268 : Cond.methodLink RX8 223 yX8_nextPlace ∈ qT := qT_in (List.mem_of_getElem? (i := 268) (by decide +kernel)) (by decide +kernel)
theorem qw270 : Cond.instanceMethod yX8_nextPlace ∈ qT := qT_in (List.mem_of_getElem? (i := 270) (by decide +kernel)) (by decide +kernel)
theorem qw271 : Cond.code yX8_nextPlace cX8_nextPlace 1 (some .int) ∈ qT := qT_in (List.mem_of_getElem? (i := 271) (by decide +kernel)) (by decide +kernel)
theorem qw272 : Cond.methodLink RX8 226 yX6_copyFrom ∈ qT := qT_in (List.mem_of_getElem? (i := 272) (by decide +kernel)) (by decide +kernel)
theorem qw273 : Cond.instanceMethod yX6_copyFrom ∈ qT := qT_in (List.mem_of_getElem? (i := 273) (by decide +kernel)) (by decide +kernel)
theorem qw274 : Cond.selects RX6 yX6_copyFrom yX6_copyFrom ∈ qT := qT_in (List.mem_of_getElem? (i := 274) (by decide +kernel)) (by decide +kernel)
theorem qw275 : Cond.code yX6_copyFrom cX6_copyFrom 2 none ∈ qT := qT_in (List.mem_of_getElem? (i := 275) (by decide +kernel)) (by decide +kernel)
theorem qw276 : Cond.methodLink RX6 37 yX5_copyFrom ∈ qT := qT_in (List.mem_of_getElem? (i := 276) (by decide +kernel)) (by decide +kernel)
theorem qw277 : Cond.instanceMethod yX5_copyFrom ∈ qT := qT_in (List.mem_of_getElem? (i := 277) (by decide +kernel)) (by decide +kernel)
theorem qw278 : Cond.selects RX5 yX5_copyFrom yX5_copyFrom ∈ qT := qT_in (List.mem_of_getElem? (i := 278) (by decide +kernel)) (by decide +kernel)
theorem qw279 : Cond.code yX5_copyFrom cX5_copyFrom 2 none ∈ qT := qT_in (List.mem_of_getElem? (i := 279) (by decide +kernel)) (by decide +kernel)
theorem qw280 : Cond.methodLink RX5 48 yX3_copyRow ∈ qT := qT_in (List.mem_of_getElem? (i := 280) (by decide +kernel)) (by decide +kernel)
theorem qw281 : Cond.static yX3_copyRow ∈ qT := qT_in (List.mem_of_getElem? (i := 281) (by decide +kernel)) (by decide +kernel)
theorem qw282 : Cond.code yX3_copyRow cX3_copyRow 2 none ∈ qT := qT_in (List.mem_of_getElem? (i := 282) (by decide +kernel)) (by decide +kernel)
theorem qw283 : Cond.methodLink RX3 10 arraycopyName ∈ qT := qT_in (List.mem_of_getElem? (i := 283) (by decide +kernel)) (by decide +kernel)
theorem qw284 : Cond.static arraycopyName ∈ qT := qT_in (List.mem_of_getElem? (i := 284) (by decide +kernel)) (by decide +kernel)
theorem qw285 : Cond.native arraycopyName ∈ qT := qT_in (List.mem_of_getElem? (i := 285) (by decide +kernel)) (by decide +kernel)
theorem qw286 : Cond.methodLink RX5 54 arraycopyName ∈ qT := qT_in (List.mem_of_getElem? (i := 286) (by decide +kernel)) (by decide +kernel)
theorem qw287 : Cond.methodLink RX6 41 yX2_copyFrom ∈ qT := qT_in (List.mem_of_getElem? (i := 287) (by decide +kernel)) (by decide +kernel)
theorem qw288 : Cond.instanceMethod yX2_copyFrom ∈ qT := qT_in (List.mem_of_getElem? (i := 288) (by decide +kernel)) (by decide +kernel)
theorem qw289 : Cond.selects RX2 yX2_copyFrom yX2_copyFrom ∈ qT := qT_in (List.mem_of_getElem? (i := 289) (by decide +kernel)) (by decide +kernel)
theorem qw290 : Cond.code yX2_copyFrom cX2_copyFrom 2 none ∈ qT := qT_in (List.mem_of_getElem? (i := 290) (by decide +kernel)) (by decide +kernel)
theorem qw291 : Cond.methodLink RX2 51 arraycopyName ∈ qT := qT_in (List.mem_of_getElem? (i := 291) (by decide +kernel)) (by decide +kernel)
theorem qw292 : Cond.methodLink RX2 57 yX7_copyFrom ∈ qT := qT_in (List.mem_of_getElem? (i := 292) (by decide +kernel)) (by decide +kernel)
theorem qw293 : Cond.instanceMethod yX7_copyFrom ∈ qT := qT_in (List.mem_of_getElem? (i := 293) (by decide +kernel)) (by decide +kernel)
theorem qw294 : Cond.selects RX7 yX7_copyFrom yX7_copyFrom ∈ qT := qT_in (List.mem_of_getElem? (i := 294) (by decide +kernel)) (by decide +kernel)
theorem qw295 : Cond.code yX7_copyFrom cX7_copyFrom 3 none ∈ qT := qT_in (List.mem_of_getElem? (i := 295) (by decide +kernel)) (by decide +kernel)
theorem qw296 : Cond.methodLink RX7 26 arraycopyName ∈ qT := qT_in (List.mem_of_getElem? (i := 296) (by decide +kernel)) (by decide +kernel)
theorem qw297 : Cond.methodLink RX7 32 yX3_copyRow ∈ qT := qT_in (List.mem_of_getElem? (i := 297) (by decide +kernel)) (by decide +kernel)
theorem qw298 : Cond.methodLink RX6 44 yX0_copyFrom ∈ qT := qT_in (List.mem_of_getElem? (i := 298) (by decide +kernel)) (by decide +kernel)
theorem qw299 : Cond.instanceMethod yX0_copyFrom ∈ qT := qT_in (List.mem_of_getElem? (i := 299) (by decide +kernel)) (by decide +kernel)
theorem qw300 : Cond.selects RX0 yX0_copyFrom yX0_copyFrom ∈ qT := qT_in (List.mem_of_getElem? (i := 300) (by decide +kernel)) (by decide +kernel)
theorem qw301 : Cond.code yX0_copyFrom cX0_copyFrom 2 none ∈ qT := qT_in (List.mem_of_getElem? (i := 301) (by decide +kernel)) (by decide +kernel)
theorem qw302 : Cond.methodLink RX0 19 arraycopyName ∈ qT := qT_in (List.mem_of_getElem? (i := 302) (by decide +kernel)) (by decide +kernel)
theorem qw303 : Cond.methodLink RX8 243 yX8_keepNextPlace ∈ qT := qT_in (List.mem_of_getElem? (i := 303) (by decide +kernel)) (by decide +kernel)
theorem qw305 : Cond.instanceMethod yX8_keepNextPlace ∈ qT := qT_in (List.mem_of_getElem? (i := 305) (by decide +kernel)) (by decide +kernel)
theorem qw306 : Cond.code yX8_keepNextPlace cX8_keepNextPlace 1 none ∈ qT := qT_in (List.mem_of_getElem? (i := 306) (by decide +kernel)) (by decide +kernel)
theorem qw307 : Cond.methodLink RX8 266 Lib.Math.min.name ∈ qT := qT_in (List.mem_of_getElem? (i := 307) (by decide +kernel)) (by decide +kernel)
theorem qw308 : Cond.static Lib.Math.min.name ∈ qT := qT_in (List.mem_of_getElem? (i := 308) (by decide +kernel)) (by decide +kernel)
theorem qw309 : Cond.code Lib.Math.min.name Lib.Math.min.code 2 (some .int) ∈ qT := qT_in (List.mem_of_getElem? (i := 309) (by decide +kernel)) (by decide +kernel)
theorem qw310 : Cond.methodLink RX8 76 yX5_step ∈ qT := qT_in (List.mem_of_getElem? (i := 310) (by decide +kernel)) (by decide +kernel)
theorem qw311 : Cond.instanceMethod yX5_step ∈ qT := qT_in (List.mem_of_getElem? (i := 311) (by decide +kernel)) (by decide +kernel)
theorem qw312 : Cond.selects RX5 yX5_step yX5_step ∈ qT := qT_in (List.mem_of_getElem? (i := 312) (by decide +kernel)) (by decide +kernel)
theorem qw313 : Cond.code yX5_step cX5_step 1 none ∈ qT := qT_in (List.mem_of_getElem? (i := 313) (by decide +kernel)) (by decide +kernel)
theorem qw314 : Cond.methodLink RX5 60 yX3_wrapped ∈ qT := qT_in (List.mem_of_getElem? (i := 314) (by decide +kernel)) (by decide +kernel)
theorem qw315 : Cond.static yX3_wrapped ∈ qT := qT_in (List.mem_of_getElem? (i := 315) (by decide +kernel)) (by decide +kernel)
theorem qw316 : Cond.code yX3_wrapped cX3_wrapped 1 (some .int) ∈ qT := qT_in (List.mem_of_getElem? (i := 316) (by decide +kernel)) (by decide +kernel)
theorem qw317 : Cond.constant RX3 9 (65535) ∈ qT := qT_in (List.mem_of_getElem? (i := 317) (by decide +kernel)) (by decide +kernel)
theorem qw322 : Cond.methodLink RX8 112 yX5_trustedReference ∈ qT := qT_in (List.mem_of_getElem? (i := 322) (by decide +kernel)) (by decide +kernel)
theorem qw323 : Cond.instanceMethod yX5_trustedReference ∈ qT := qT_in (List.mem_of_getElem? (i := 323) (by decide +kernel)) (by decide +kernel)
theorem qw324 : Cond.selects RX5 yX5_trustedReference yX5_trustedReference ∈ qT := qT_in (List.mem_of_getElem? (i := 324) (by decide +kernel)) (by decide +kernel)
theorem qw325 : Cond.code yX5_trustedReference cX5_trustedReference 5 (some .int) ∈ qT := qT_in (List.mem_of_getElem? (i := 325) (by decide +kernel)) (by decide +kernel)
theorem qw326 : Cond.methodLink RX5 64 Lib.Math.max.name ∈ qT := qT_in (List.mem_of_getElem? (i := 326) (by decide +kernel)) (by decide +kernel)
theorem qw327 : Cond.static Lib.Math.max.name ∈ qT := qT_in (List.mem_of_getElem? (i := 327) (by decide +kernel)) (by decide +kernel)
theorem qw328 : Cond.code Lib.Math.max.name Lib.Math.max.code 2 (some .int) ∈ qT := qT_in (List.mem_of_getElem? (i := 328) (by decide +kernel)) (by decide +kernel)
theorem qw333 : Cond.methodLink RX8 130 yX6_deliverPacket ∈ qT := qT_in (List.mem_of_getElem? (i := 333) (by decide +kernel)) (by decide +kernel)
theorem qw334 : Cond.instanceMethod yX6_deliverPacket ∈ qT := qT_in (List.mem_of_getElem? (i := 334) (by decide +kernel)) (by decide +kernel)
theorem qw335 : Cond.selects RX6 yX6_deliverPacket yX6_deliverPacket ∈ qT := qT_in (List.mem_of_getElem? (i := 335) (by decide +kernel)) (by decide +kernel)
theorem qw336 : Cond.code yX6_deliverPacket cX6_deliverPacket 2 (some .int) ∈ qT := qT_in (List.mem_of_getElem? (i := 336) (by decide +kernel)) (by decide +kernel)
theorem qw337 : Cond.methodLink RX6 62 yX0_takeOut ∈ qT := qT_in (List.mem_of_getElem? (i := 337) (by decide +kernel)) (by decide +kernel)
theorem qw338 : Cond.instanceMethod yX0_takeOut ∈ qT := qT_in (List.mem_of_getElem? (i := 338) (by decide +kernel)) (by decide +kernel)
theorem qw339 : Cond.selects RX0 yX0_takeOut yX0_takeOut ∈ qT := qT_in (List.mem_of_getElem? (i := 339) (by decide +kernel)) (by decide +kernel)
theorem qw340 : Cond.code yX0_takeOut cX0_takeOut 3 (some .int) ∈ qT := qT_in (List.mem_of_getElem? (i := 340) (by decide +kernel)) (by decide +kernel)
theorem qw341 : Cond.methodLink RX6 66 yX2_receive ∈ qT := qT_in (List.mem_of_getElem? (i := 341) (by decide +kernel)) (by decide +kernel)
theorem qw342 : Cond.instanceMethod yX2_receive ∈ qT := qT_in (List.mem_of_getElem? (i := 342) (by decide +kernel)) (by decide +kernel)
theorem qw343 : Cond.selects RX2 yX2_receive yX2_receive ∈ qT := qT_in (List.mem_of_getElem? (i := 343) (by decide +kernel)) (by decide +kernel)
theorem qw344 : Cond.code yX2_receive cX2_receive 5 (some .int) ∈ qT := qT_in (List.mem_of_getElem? (i := 344) (by decide +kernel)) (by decide +kernel)
theorem qw345 : Cond.methodLink RX2 67 Lib.Math.max.name ∈ qT := qT_in (List.mem_of_getElem? (i := 345) (by decide +kernel)) (by decide +kernel)
theorem qw346 : Cond.methodLink RX2 75 yX2_numberOf ∈ qT := qT_in (List.mem_of_getElem? (i := 346) (by decide +kernel)) (by decide +kernel)
theorem qw347 : Cond.instanceMethod yX2_numberOf ∈ qT := qT_in (List.mem_of_getElem? (i := 347) (by decide +kernel)) (by decide +kernel)
theorem qw348 : Cond.selects RX2 yX2_numberOf yX2_numberOf ∈ qT := qT_in (List.mem_of_getElem? (i := 348) (by decide +kernel)) (by decide +kernel)
theorem qw349 : Cond.code yX2_numberOf cX2_numberOf 3 (some .int) ∈ qT := qT_in (List.mem_of_getElem? (i := 349) (by decide +kernel)) (by decide +kernel)
theorem qw350 : Cond.methodLink RX2 61 yJ9_floorMod_7cf53 ∈ qT := qT_in (List.mem_of_getElem? (i := 350) (by decide +kernel)) (by decide +kernel)
theorem qw351 : Cond.static yJ9_floorMod_7cf53 ∈ qT := qT_in (List.mem_of_getElem? (i := 351) (by decide +kernel)) (by decide +kernel)
theorem qw352 : Cond.code yJ9_floorMod_7cf53 cJ9_floorMod_7cf53 3 (some .int) ∈ qT := qT_in (List.mem_of_getElem? (i := 352) (by decide +kernel)) (by decide +kernel)
theorem qw353 : Cond.methodLink RX2 79 yX7_has ∈ qT := qT_in (List.mem_of_getElem? (i := 353) (by decide +kernel)) (by decide +kernel)
theorem qw354 : Cond.instanceMethod yX7_has ∈ qT := qT_in (List.mem_of_getElem? (i := 354) (by decide +kernel)) (by decide +kernel)
theorem qw355 : Cond.selects RX7 yX7_has yX7_has ∈ qT := qT_in (List.mem_of_getElem? (i := 355) (by decide +kernel)) (by decide +kernel)
theorem qw356 : Cond.code yX7_has cX7_has 2 (some .boolean) ∈ qT := qT_in (List.mem_of_getElem? (i := 356) (by decide +kernel)) (by decide +kernel)
theorem qw357 : Cond.methodLink RX2 83 yX2_decode ∈ qT := qT_in (List.mem_of_getElem? (i := 357) (by decide +kernel)) (by decide +kernel)
theorem qw359 : Cond.instanceMethod yX2_decode ∈ qT := qT_in (List.mem_of_getElem? (i := 359) (by decide +kernel)) (by decide +kernel)
theorem qw360 : Cond.code yX2_decode cX2_decode 5 (some .boolean) ∈ qT := qT_in (List.mem_of_getElem? (i := 360) (by decide +kernel)) (by decide +kernel)
theorem qw361 : Cond.methodLink RX2 108 yX3_copyRow ∈ qT := qT_in (List.mem_of_getElem? (i := 361) (by decide +kernel)) (by decide +kernel)
theorem qw362 : Cond.methodLink RX2 115 yX7_rowOf ∈ qT := qT_in (List.mem_of_getElem? (i := 362) (by decide +kernel)) (by decide +kernel)
theorem qw363 : Cond.instanceMethod yX7_rowOf ∈ qT := qT_in (List.mem_of_getElem? (i := 363) (by decide +kernel)) (by decide +kernel)
theorem qw364 : Cond.selects RX7 yX7_rowOf yX7_rowOf ∈ qT := qT_in (List.mem_of_getElem? (i := 364) (by decide +kernel)) (by decide +kernel)
theorem qw365 : Cond.code yX7_rowOf cX7_rowOf 2 (some (.array .int)) ∈ qT := qT_in (List.mem_of_getElem? (i := 365) (by decide +kernel)) (by decide +kernel)
theorem qw366 : Cond.methodLink RX7 38 yJ9_floorMod_7cf53 ∈ qT := qT_in (List.mem_of_getElem? (i := 366) (by decide +kernel)) (by decide +kernel)
theorem qw367 : Cond.methodLink RX2 119 yX3_putBase ∈ qT := qT_in (List.mem_of_getElem? (i := 367) (by decide +kernel)) (by decide +kernel)
theorem qw368 : Cond.static yX3_putBase ∈ qT := qT_in (List.mem_of_getElem? (i := 368) (by decide +kernel)) (by decide +kernel)
theorem qw369 : Cond.code yX3_putBase cX3_putBase 4 none ∈ qT := qT_in (List.mem_of_getElem? (i := 369) (by decide +kernel)) (by decide +kernel)
theorem qw370 : Cond.methodLink RX3 16 yX3_wrapped ∈ qT := qT_in (List.mem_of_getElem? (i := 370) (by decide +kernel)) (by decide +kernel)
theorem qw371 : Cond.methodLink RX2 126 yX3_addCarried ∈ qT := qT_in (List.mem_of_getElem? (i := 371) (by decide +kernel)) (by decide +kernel)
theorem qw372 : Cond.static yX3_addCarried ∈ qT := qT_in (List.mem_of_getElem? (i := 372) (by decide +kernel)) (by decide +kernel)
theorem qw373 : Cond.code yX3_addCarried cX3_addCarried 2 none ∈ qT := qT_in (List.mem_of_getElem? (i := 373) (by decide +kernel)) (by decide +kernel)
theorem qw374 : Cond.methodLink RX2 87 yX2_isRight ∈ qT := qT_in (List.mem_of_getElem? (i := 374) (by decide +kernel)) (by decide +kernel)
theorem qw376 : Cond.instanceMethod yX2_isRight ∈ qT := qT_in (List.mem_of_getElem? (i := 376) (by decide +kernel)) (by decide +kernel)
theorem qw377 : Cond.code yX2_isRight cX2_isRight 3 (some .boolean) ∈ qT := qT_in (List.mem_of_getElem? (i := 377) (by decide +kernel)) (by decide +kernel)
theorem qw378 : Cond.methodLink RX2 102 yX3_sameHeader ∈ qT := qT_in (List.mem_of_getElem? (i := 378) (by decide +kernel)) (by decide +kernel)
theorem qw379 : Cond.static yX3_sameHeader ∈ qT := qT_in (List.mem_of_getElem? (i := 379) (by decide +kernel)) (by decide +kernel)
theorem qw380 : Cond.code yX3_sameHeader cX3_sameHeader 3 (some .boolean) ∈ qT := qT_in (List.mem_of_getElem? (i := 380) (by decide +kernel)) (by decide +kernel)
theorem qw381 : Cond.methodLink RX2 90 yX2_missReference ∈ qT := qT_in (List.mem_of_getElem? (i := 381) (by decide +kernel)) (by decide +kernel)
theorem qw383 : Cond.instanceMethod yX2_missReference ∈ qT := qT_in (List.mem_of_getElem? (i := 383) (by decide +kernel)) (by decide +kernel)
theorem qw384 : Cond.code yX2_missReference cX2_missReference 2 none ∈ qT := qT_in (List.mem_of_getElem? (i := 384) (by decide +kernel)) (by decide +kernel)
theorem qw385 : Cond.methodLink RX2 141 yX0_put ∈ qT := qT_in (List.mem_of_getElem? (i := 385) (by decide +kernel)) (by decide +kernel)
theorem qw386 : Cond.instanceMethod yX0_put ∈ qT := qT_in (List.mem_of_getElem? (i := 386) (by decide +kernel)) (by decide +kernel)
theorem qw387 : Cond.selects RX0 yX0_put yX0_put ∈ qT := qT_in (List.mem_of_getElem? (i := 387) (by decide +kernel)) (by decide +kernel)
theorem qw388 : Cond.code yX0_put cX0_put 2 none ∈ qT := qT_in (List.mem_of_getElem? (i := 388) (by decide +kernel)) (by decide +kernel)
theorem qw389 : Cond.methodLink RX0 29 yX0_isFull ∈ qT := qT_in (List.mem_of_getElem? (i := 389) (by decide +kernel)) (by decide +kernel)
theorem qw390 : Cond.instanceMethod yX0_isFull ∈ qT := qT_in (List.mem_of_getElem? (i := 390) (by decide +kernel)) (by decide +kernel)
theorem qw391 : Cond.selects RX0 yX0_isFull yX0_isFull ∈ qT := qT_in (List.mem_of_getElem? (i := 391) (by decide +kernel)) (by decide +kernel)
theorem qw392 : Cond.code yX0_isFull cX0_isFull 1 (some .boolean) ∈ qT := qT_in (List.mem_of_getElem? (i := 392) (by decide +kernel)) (by decide +kernel)
theorem qw393 : Cond.methodLink RX2 94 yX2_keepDecoded ∈ qT := qT_in (List.mem_of_getElem? (i := 393) (by decide +kernel)) (by decide +kernel)
theorem qw395 : Cond.instanceMethod yX2_keepDecoded ∈ qT := qT_in (List.mem_of_getElem? (i := 395) (by decide +kernel)) (by decide +kernel)
theorem qw396 : Cond.code yX2_keepDecoded cX2_keepDecoded 3 none ∈ qT := qT_in (List.mem_of_getElem? (i := 396) (by decide +kernel)) (by decide +kernel)
theorem qw397 : Cond.methodLink RX2 129 yX7_dropUpTo ∈ qT := qT_in (List.mem_of_getElem? (i := 397) (by decide +kernel)) (by decide +kernel)
theorem qw398 : Cond.instanceMethod yX7_dropUpTo ∈ qT := qT_in (List.mem_of_getElem? (i := 398) (by decide +kernel)) (by decide +kernel)
theorem qw399 : Cond.selects RX7 yX7_dropUpTo yX7_dropUpTo ∈ qT := qT_in (List.mem_of_getElem? (i := 399) (by decide +kernel)) (by decide +kernel)
theorem qw400 : Cond.code yX7_dropUpTo cX7_dropUpTo 3 none ∈ qT := qT_in (List.mem_of_getElem? (i := 400) (by decide +kernel)) (by decide +kernel)
theorem qw401 : Cond.methodLink RX2 133 yX7_keep ∈ qT := qT_in (List.mem_of_getElem? (i := 401) (by decide +kernel)) (by decide +kernel)
theorem qw402 : Cond.instanceMethod yX7_keep ∈ qT := qT_in (List.mem_of_getElem? (i := 402) (by decide +kernel)) (by decide +kernel)
theorem qw403 : Cond.selects RX7 yX7_keep yX7_keep ∈ qT := qT_in (List.mem_of_getElem? (i := 403) (by decide +kernel)) (by decide +kernel)
theorem qw404 : Cond.code yX7_keep cX7_keep 4 none ∈ qT := qT_in (List.mem_of_getElem? (i := 404) (by decide +kernel)) (by decide +kernel)
theorem qw405 : Cond.methodLink RX2 137 yX2_decodedPackets ∈ qT := qT_in (List.mem_of_getElem? (i := 405) (by decide +kernel)) (by decide +kernel)
theorem qw406 : Cond.instanceMethod yX2_decodedPackets ∈ qT := qT_in (List.mem_of_getElem? (i := 406) (by decide +kernel)) (by decide +kernel)
theorem qw407 : Cond.selects RX2 yX2_decodedPackets yX2_decodedPackets ∈ qT := qT_in (List.mem_of_getElem? (i := 407) (by decide +kernel)) (by decide +kernel)
theorem qw408 : Cond.code yX2_decodedPackets cX2_decodedPackets 1 (some .int) ∈ qT := qT_in (List.mem_of_getElem? (i := 408) (by decide +kernel)) (by decide +kernel)
theorem qw426 : Cond.methodLink RX8 32 yX8_inRange ∈ qT := qT_in (List.mem_of_getElem? (i := 426) (by decide +kernel)) (by decide +kernel)
theorem qw427 : Cond.static yX8_inRange ∈ qT := qT_in (List.mem_of_getElem? (i := 427) (by decide +kernel)) (by decide +kernel)
theorem qw428 : Cond.code yX8_inRange cX8_inRange 3 (some .boolean) ∈ qT := qT_in (List.mem_of_getElem? (i := 428) (by decide +kernel)) (by decide +kernel)
theorem qw497 : Cond.methodLink RX8 43 yX8_fieldMost ∈ qT := qT_in (List.mem_of_getElem? (i := 497) (by decide +kernel)) (by decide +kernel)
theorem qw498 : Cond.static yX8_fieldMost ∈ qT := qT_in (List.mem_of_getElem? (i := 498) (by decide +kernel)) (by decide +kernel)
theorem qw499 : Cond.code yX8_fieldMost cX8_fieldMost 1 (some .int) ∈ qT := qT_in (List.mem_of_getElem? (i := 499) (by decide +kernel)) (by decide +kernel)
theorem qw500 : Cond.constant RX8 271 (65535) ∈ qT := qT_in (List.mem_of_getElem? (i := 500) (by decide +kernel)) (by decide +kernel)
theorem qw543 : Cond.methodLink RX8 79 yX6_hasRoomFor ∈ qT := qT_in (List.mem_of_getElem? (i := 543) (by decide +kernel)) (by decide +kernel)
theorem qw544 : Cond.instanceMethod yX6_hasRoomFor ∈ qT := qT_in (List.mem_of_getElem? (i := 544) (by decide +kernel)) (by decide +kernel)
theorem qw545 : Cond.selects RX6 yX6_hasRoomFor yX6_hasRoomFor ∈ qT := qT_in (List.mem_of_getElem? (i := 545) (by decide +kernel)) (by decide +kernel)
theorem qw546 : Cond.code yX6_hasRoomFor cX6_hasRoomFor 2 (some .boolean) ∈ qT := qT_in (List.mem_of_getElem? (i := 546) (by decide +kernel)) (by decide +kernel)
theorem qw563 : Cond.methodLink RX8 88 yX6_sendNext ∈ qT := qT_in (List.mem_of_getElem? (i := 563) (by decide +kernel)) (by decide +kernel)
theorem qw564 : Cond.instanceMethod yX6_sendNext ∈ qT := qT_in (List.mem_of_getElem? (i := 564) (by decide +kernel)) (by decide +kernel)
theorem qw565 : Cond.selects RX6 yX6_sendNext yX6_sendNext ∈ qT := qT_in (List.mem_of_getElem? (i := 565) (by decide +kernel)) (by decide +kernel)
theorem qw566 : Cond.code yX6_sendNext cX6_sendNext 2 (some .int) ∈ qT := qT_in (List.mem_of_getElem? (i := 566) (by decide +kernel)) (by decide +kernel)
theorem qw567 : Cond.methodLink RX6 54 yX5_sendPresent ∈ qT := qT_in (List.mem_of_getElem? (i := 567) (by decide +kernel)) (by decide +kernel)
theorem qw568 : Cond.instanceMethod yX5_sendPresent ∈ qT := qT_in (List.mem_of_getElem? (i := 568) (by decide +kernel)) (by decide +kernel)
theorem qw569 : Cond.selects RX5 yX5_sendPresent yX5_sendPresent ∈ qT := qT_in (List.mem_of_getElem? (i := 569) (by decide +kernel)) (by decide +kernel)
theorem qw570 : Cond.code yX5_sendPresent cX5_sendPresent 4 (some .int) ∈ qT := qT_in (List.mem_of_getElem? (i := 570) (by decide +kernel)) (by decide +kernel)
theorem qw571 : Cond.methodLink RX5 91 yX5_usedReference ∈ qT := qT_in (List.mem_of_getElem? (i := 571) (by decide +kernel)) (by decide +kernel)
theorem qw572 : Cond.instanceMethod yX5_usedReference ∈ qT := qT_in (List.mem_of_getElem? (i := 572) (by decide +kernel)) (by decide +kernel)
theorem qw573 : Cond.selects RX5 yX5_usedReference yX5_usedReference ∈ qT := qT_in (List.mem_of_getElem? (i := 573) (by decide +kernel)) (by decide +kernel)
theorem qw574 : Cond.code yX5_usedReference cX5_usedReference 3 (some .int) ∈ qT := qT_in (List.mem_of_getElem? (i := 574) (by decide +kernel)) (by decide +kernel)
theorem qw575 : Cond.methodLink RX5 70 yX5_trustedReference ∈ qT := qT_in (List.mem_of_getElem? (i := 575) (by decide +kernel)) (by decide +kernel)
theorem qw576 : Cond.methodLink RX5 94 yX5_sizeFrom ∈ qT := qT_in (List.mem_of_getElem? (i := 576) (by decide +kernel)) (by decide +kernel)
theorem qw577 : Cond.instanceMethod yX5_sizeFrom ∈ qT := qT_in (List.mem_of_getElem? (i := 577) (by decide +kernel)) (by decide +kernel)
theorem qw578 : Cond.selects RX5 yX5_sizeFrom yX5_sizeFrom ∈ qT := qT_in (List.mem_of_getElem? (i := 578) (by decide +kernel)) (by decide +kernel)
theorem qw579 : Cond.code yX5_sizeFrom cX5_sizeFrom 3 (some .int) ∈ qT := qT_in (List.mem_of_getElem? (i := 579) (by decide +kernel)) (by decide +kernel)
theorem qw580 : Cond.methodLink RX5 79 yX3_putBase ∈ qT := qT_in (List.mem_of_getElem? (i := 580) (by decide +kernel)) (by decide +kernel)
theorem qw581 : Cond.methodLink RX5 83 yX3_putCarried ∈ qT := qT_in (List.mem_of_getElem? (i := 581) (by decide +kernel)) (by decide +kernel)
theorem qw582 : Cond.static yX3_putCarried ∈ qT := qT_in (List.mem_of_getElem? (i := 582) (by decide +kernel)) (by decide +kernel)
theorem qw583 : Cond.code yX3_putCarried cX3_putCarried 3 none ∈ qT := qT_in (List.mem_of_getElem? (i := 583) (by decide +kernel)) (by decide +kernel)
theorem qw584 : Cond.methodLink RX3 22 yX3_difference ∈ qT := qT_in (List.mem_of_getElem? (i := 584) (by decide +kernel)) (by decide +kernel)
theorem qw585 : Cond.static yX3_difference ∈ qT := qT_in (List.mem_of_getElem? (i := 585) (by decide +kernel)) (by decide +kernel)
theorem qw586 : Cond.code yX3_difference cX3_difference 2 (some .int) ∈ qT := qT_in (List.mem_of_getElem? (i := 586) (by decide +kernel)) (by decide +kernel)
theorem qw587 : Cond.methodLink RX5 87 yX3_sizeOf ∈ qT := qT_in (List.mem_of_getElem? (i := 587) (by decide +kernel)) (by decide +kernel)
theorem qw588 : Cond.static yX3_sizeOf ∈ qT := qT_in (List.mem_of_getElem? (i := 588) (by decide +kernel)) (by decide +kernel)
theorem qw589 : Cond.code yX3_sizeOf cX3_sizeOf 2 (some .int) ∈ qT := qT_in (List.mem_of_getElem? (i := 589) (by decide +kernel)) (by decide +kernel)
theorem qw590 : Cond.methodLink RX3 26 yX3_bytesOf ∈ qT := qT_in (List.mem_of_getElem? (i := 590) (by decide +kernel)) (by decide +kernel)
theorem qw591 : Cond.static yX3_bytesOf ∈ qT := qT_in (List.mem_of_getElem? (i := 591) (by decide +kernel)) (by decide +kernel)
theorem qw592 : Cond.code yX3_bytesOf cX3_bytesOf 1 (some .int) ∈ qT := qT_in (List.mem_of_getElem? (i := 592) (by decide +kernel)) (by decide +kernel)
theorem qw594 : Cond.methodLink RX6 58 yX0_put ∈ qT := qT_in (List.mem_of_getElem? (i := 594) (by decide +kernel)) (by decide +kernel)
theorem qw612 : Cond.methodLink RX8 105 yX5_usedReference ∈ qT := qT_in (List.mem_of_getElem? (i := 612) (by decide +kernel)) (by decide +kernel)
theorem qw613 : Cond.methodLink RX8 109 yX5_sizeFrom ∈ qT := qT_in (List.mem_of_getElem? (i := 613) (by decide +kernel)) (by decide +kernel)
theorem qw621 : Cond.methodLink RX8 125 yX0_has ∈ qT := qT_in (List.mem_of_getElem? (i := 621) (by decide +kernel)) (by decide +kernel)
theorem qw622 : Cond.instanceMethod yX0_has ∈ qT := qT_in (List.mem_of_getElem? (i := 622) (by decide +kernel)) (by decide +kernel)
theorem qw623 : Cond.selects RX0 yX0_has yX0_has ∈ qT := qT_in (List.mem_of_getElem? (i := 623) (by decide +kernel)) (by decide +kernel)
theorem qw624 : Cond.code yX0_has cX0_has 2 (some .boolean) ∈ qT := qT_in (List.mem_of_getElem? (i := 624) (by decide +kernel)) (by decide +kernel)
theorem qw634 : Cond.methodLink RX8 133 yX0_takeOut ∈ qT := qT_in (List.mem_of_getElem? (i := 634) (by decide +kernel)) (by decide +kernel)
theorem qw642 : Cond.methodLink RX8 136 yX0_isFull ∈ qT := qT_in (List.mem_of_getElem? (i := 642) (by decide +kernel)) (by decide +kernel)
theorem qw644 : Cond.methodLink RX8 145 yX0_put ∈ qT := qT_in (List.mem_of_getElem? (i := 644) (by decide +kernel)) (by decide +kernel)
theorem qw653 : Cond.methodLink RX8 154 yX6_deliverMessage ∈ qT := qT_in (List.mem_of_getElem? (i := 653) (by decide +kernel)) (by decide +kernel)
theorem qw654 : Cond.instanceMethod yX6_deliverMessage ∈ qT := qT_in (List.mem_of_getElem? (i := 654) (by decide +kernel)) (by decide +kernel)
theorem qw655 : Cond.selects RX6 yX6_deliverMessage yX6_deliverMessage ∈ qT := qT_in (List.mem_of_getElem? (i := 655) (by decide +kernel)) (by decide +kernel)
theorem qw656 : Cond.code yX6_deliverMessage cX6_deliverMessage 3 (some .int) ∈ qT := qT_in (List.mem_of_getElem? (i := 656) (by decide +kernel)) (by decide +kernel)
theorem qw657 : Cond.methodLink RX6 70 yX5_hear ∈ qT := qT_in (List.mem_of_getElem? (i := 657) (by decide +kernel)) (by decide +kernel)
theorem qw658 : Cond.instanceMethod yX5_hear ∈ qT := qT_in (List.mem_of_getElem? (i := 658) (by decide +kernel)) (by decide +kernel)
theorem qw659 : Cond.selects RX5 yX5_hear yX5_hear ∈ qT := qT_in (List.mem_of_getElem? (i := 659) (by decide +kernel)) (by decide +kernel)
theorem qw660 : Cond.code yX5_hear cX5_hear 2 none ∈ qT := qT_in (List.mem_of_getElem? (i := 660) (by decide +kernel)) (by decide +kernel)
theorem qw736 : Cond.methodLink RX8 205 yX5_savedBytes ∈ qT := qT_in (List.mem_of_getElem? (i := 736) (by decide +kernel)) (by decide +kernel)
theorem qw737 : Cond.instanceMethod yX5_savedBytes ∈ qT := qT_in (List.mem_of_getElem? (i := 737) (by decide +kernel)) (by decide +kernel)
theorem qw738 : Cond.selects RX5 yX5_savedBytes yX5_savedBytes ∈ qT := qT_in (List.mem_of_getElem? (i := 738) (by decide +kernel)) (by decide +kernel)
theorem qw739 : Cond.code yX5_savedBytes cX5_savedBytes 1 (some .int) ∈ qT := qT_in (List.mem_of_getElem? (i := 739) (by decide +kernel)) (by decide +kernel)
theorem qw744 : Cond.methodLink RX8 157 yX8_linkOf ∈ qT := qT_in (List.mem_of_getElem? (i := 744) (by decide +kernel)) (by decide +kernel)
theorem qw746 : Cond.instanceMethod yX8_linkOf ∈ qT := qT_in (List.mem_of_getElem? (i := 746) (by decide +kernel)) (by decide +kernel)
theorem qw747 : Cond.code yX8_linkOf cX8_linkOf 2 (some (.object "HeaderSqueezer$Link")) ∈ qT := qT_in (List.mem_of_getElem? (i := 747) (by decide +kernel)) (by decide +kernel)
theorem qw756 : Cond.methodLink RX8 202 yX6_countOf ∈ qT := qT_in (List.mem_of_getElem? (i := 756) (by decide +kernel)) (by decide +kernel)
theorem qw757 : Cond.instanceMethod yX6_countOf ∈ qT := qT_in (List.mem_of_getElem? (i := 757) (by decide +kernel)) (by decide +kernel)
theorem qw758 : Cond.selects RX6 yX6_countOf yX6_countOf ∈ qT := qT_in (List.mem_of_getElem? (i := 758) (by decide +kernel)) (by decide +kernel)
theorem qw759 : Cond.code yX6_countOf cX6_countOf 2 (some .int) ∈ qT := qT_in (List.mem_of_getElem? (i := 759) (by decide +kernel)) (by decide +kernel)
theorem qw760 : Cond.methodLink RX6 73 yX2_decodedPackets ∈ qT := qT_in (List.mem_of_getElem? (i := 760) (by decide +kernel)) (by decide +kernel)
theorem qw781 : Cond.methodLink RX8 189 yX7_valueOf ∈ qT := qT_in (List.mem_of_getElem? (i := 781) (by decide +kernel)) (by decide +kernel)
theorem qw782 : Cond.instanceMethod yX7_valueOf ∈ qT := qT_in (List.mem_of_getElem? (i := 782) (by decide +kernel)) (by decide +kernel)
theorem qw783 : Cond.selects RX7 yX7_valueOf yX7_valueOf ∈ qT := qT_in (List.mem_of_getElem? (i := 783) (by decide +kernel)) (by decide +kernel)
theorem qw784 : Cond.code yX7_valueOf cX7_valueOf 3 (some .int) ∈ qT := qT_in (List.mem_of_getElem? (i := 784) (by decide +kernel)) (by decide +kernel)
theorem qw785 : Cond.methodLink RX7 44 yX7_has ∈ qT := qT_in (List.mem_of_getElem? (i := 785) (by decide +kernel)) (by decide +kernel)
theorem qw786 : Cond.methodLink RX7 48 yX7_rowOf ∈ qT := qT_in (List.mem_of_getElem? (i := 786) (by decide +kernel)) (by decide +kernel)
theorem qw795 : Cond.methodLink RX8 122 yX5_sentValue ∈ qT := qT_in (List.mem_of_getElem? (i := 795) (by decide +kernel)) (by decide +kernel)
theorem qw796 : Cond.instanceMethod yX5_sentValue ∈ qT := qT_in (List.mem_of_getElem? (i := 796) (by decide +kernel)) (by decide +kernel)
theorem qw797 : Cond.selects RX5 yX5_sentValue yX5_sentValue ∈ qT := qT_in (List.mem_of_getElem? (i := 797) (by decide +kernel)) (by decide +kernel)
theorem qw798 : Cond.code yX5_sentValue cX5_sentValue 3 (some .int) ∈ qT := qT_in (List.mem_of_getElem? (i := 798) (by decide +kernel)) (by decide +kernel)
theorem qw810 : Cond.methodLink RX8 194 yX7_size ∈ qT := qT_in (List.mem_of_getElem? (i := 810) (by decide +kernel)) (by decide +kernel)
theorem qw811 : Cond.instanceMethod yX7_size ∈ qT := qT_in (List.mem_of_getElem? (i := 811) (by decide +kernel)) (by decide +kernel)
theorem qw812 : Cond.selects RX7 yX7_size yX7_size ∈ qT := qT_in (List.mem_of_getElem? (i := 812) (by decide +kernel)) (by decide +kernel)
theorem qw813 : Cond.code yX7_size cX7_size 3 (some .int) ∈ qT := qT_in (List.mem_of_getElem? (i := 813) (by decide +kernel)) (by decide +kernel)
theorem qw822 : Cond.methodLink RX8 199 yX2_numberOf ∈ qT := qT_in (List.mem_of_getElem? (i := 822) (by decide +kernel)) (by decide +kernel)
theorem cb_m128 : (Int8.ofInt (-128)).toInt32 = (-128) := by decide +kernel
theorem cb_6 : (Int8.ofInt (6)).toInt32 = 6 := by decide +kernel
theorem cb_7 : (Int8.ofInt (7)).toInt32 = 7 := by decide +kernel
theorem cb_8 : (Int8.ofInt (8)).toInt32 = 8 := by decide +kernel
theorem cb_12 : (Int8.ofInt (12)).toInt32 = 12 := by decide +kernel
theorem cb_15 : (Int8.ofInt (15)).toInt32 = 15 := by decide +kernel
theorem cb_16 : (Int8.ofInt (16)).toInt32 = 16 := by decide +kernel
theorem cb_20 : (Int8.ofInt (20)).toInt32 = 20 := by decide +kernel
theorem cb_50 : (Int8.ofInt (50)).toInt32 = 50 := by decide +kernel
theorem cb_63 : (Int8.ofInt (63)).toInt32 = 63 := by decide +kernel
theorem cb_64 : (Int8.ofInt (64)).toInt32 = 64 := by decide +kernel
theorem cb_100 : (Int8.ofInt (100)).toInt32 = 100 := by decide +kernel
theorem cb_127 : (Int8.ofInt (127)).toInt32 = 127 := by decide +kernel
theorem ci_m1 : Int32.ofInt (-1) = (-1) := by decide +kernel
theorem ci_0 : Int32.ofInt (0) = 0 := by decide +kernel
theorem ci_1 : Int32.ofInt (1) = 1 := by decide +kernel
theorem ci_2 : Int32.ofInt (2) = 2 := by decide +kernel
theorem ci_3 : Int32.ofInt (3) = 3 := by decide +kernel
theorem ci_4 : Int32.ofInt (4) = 4 := by decide +kernel
theorem ci_5 : Int32.ofInt (5) = 5 := by decide +kernel
theorem cs_160 : (Int16.ofInt (160)).toInt32 = 160 := by decide +kernel
theorem cs_255 : (Int16.ofInt (255)).toInt32 = 255 := by decide +kernel
theorem cs_500 : (Int16.ofInt (500)).toInt32 = 500 := by decide +kernel
theorem cs_999 : (Int16.ofInt (999)).toInt32 = 999 := by decide +kernel
theorem cs_4095 : (Int16.ofInt (4095)).toInt32 = 4095 := by decide +kernel
theorem inqX0 : ∀ w ∈ wsX00, w ∈ qT := fun w hw => qT_in (inX0 w hw) (List.all_eq_true.mp (by decide +kernel : (wsX00).all goodWord = true) w hw)
theorem inqX1 : ∀ w ∈ wsX10, w ∈ qT := fun w hw => qT_in (inX1 w hw) (List.all_eq_true.mp (by decide +kernel : (wsX10).all goodWord = true) w hw)
theorem inqX2 : ∀ w ∈ wsX20, w ∈ qT := fun w hw => qT_in (inX2 w hw) (List.all_eq_true.mp (by decide +kernel : (wsX20).all goodWord = true) w hw)
theorem inqX3 : ∀ w ∈ wsX30, w ∈ qT := fun w hw => qT_in (inX3 w hw) (List.all_eq_true.mp (by decide +kernel : (wsX30).all goodWord = true) w hw)
theorem inqX4 : ∀ w ∈ wsX40, w ∈ qT := fun w hw => qT_in (inX4 w hw) (List.all_eq_true.mp (by decide +kernel : (wsX40).all goodWord = true) w hw)
theorem inqX5 : ∀ w ∈ wsX50, w ∈ qT := fun w hw => qT_in (inX5 w hw) (List.all_eq_true.mp (by decide +kernel : (wsX50).all goodWord = true) w hw)
theorem inqX6 : ∀ w ∈ wsX60, w ∈ qT := fun w hw => qT_in (inX6 w hw) (List.all_eq_true.mp (by decide +kernel : (wsX60).all goodWord = true) w hw)
theorem inqX7 : ∀ w ∈ wsX70, w ∈ qT := fun w hw => qT_in (inX7 w hw) (List.all_eq_true.mp (by decide +kernel : (wsX70).all goodWord = true) w hw)
theorem inqX8 : ∀ w ∈ wsX80, w ∈ qT := fun w hw => qT_in (inX8 w hw) (List.all_eq_true.mp (by decide +kernel : (wsX80).all goodWord = true) w hw)
theorem inqX9 : ∀ w ∈ wsX90, w ∈ qT := fun w hw => qT_in (inX9 w hw) (List.all_eq_true.mp (by decide +kernel : (wsX90).all goodWord = true) w hw)
def fX0 : Nat → Option (Nat × Nat × FieldType × Bool) := fun n => match n with
  | 9 => some (0, 0, .array .int, true)
  | 15 => some (0, 1, .int, false)
  | _ => none
def kX0 : Nat → Option Int32 := fun _ => none
def jX0 : Nat → Option Int64 := fun _ => none
def nX0 : Nat → Option (Nat × Nat × List Value) := fun _ => none
def fX1 : Nat → Option (Nat × Nat × FieldType × Bool) := fun n => match n with
  | 11 => some (1, 0, .array (.array .int), true)
  | 16 => some (1, 1, .array (.array .int), true)
  | 19 => some (1, 2, .array .int, true)
  | 23 => some (1, 3, .array .int, true)
  | 26 => some (1, 4, .array .int, true)
  | _ => none
def kX1 : Nat → Option Int32 := fun _ => none
def jX1 : Nat → Option Int64 := fun _ => none
def nX1 : Nat → Option (Nat × Nat × List Value) := fun n => match n with
  | 9 => some (99, 0, [])
  | _ => none
def fX2 : Nat → Option (Nat × Nat × FieldType × Bool) := fun n => match n with
  | 9 => some (2, 1, .int, false)
  | 15 => some (2, 2, .int, false)
  | 18 => some (2, 3, .int, false)
  | 21 => some (2, 4, .int, false)
  | 24 => some (2, 5, .int, false)
  | 27 => some (2, 6, .int, false)
  | 30 => some (2, 7, .int, false)
  | 33 => some (2, 8, .array .int, true)
  | 40 => some (2, 9, .object "HeaderSqueezer$Window", true)
  | 44 => some (2, 10, .array .int, true)
  | 47 => some (2, 0, .object "HeaderSqueezer$PacketLog", true)
  | 70 => some (1, 2, .float, false)
  | 98 => some (1, 0, .float, false)
  | 112 => some (1, 3, .float, false)
  | 123 => some (1, 1, .float, false)
  | _ => none
def kX2 : Nat → Option Int32 := fun _ => none
def jX2 : Nat → Option Int64 := fun _ => none
def nX2 : Nat → Option (Nat × Nat × List Value) := fun n => match n with
  | 37 => some (6, 2, [.null, .null])
  | _ => none
def fX3 : Nat → Option (Nat × Nat × FieldType × Bool) := fun _ => none
def kX3 : Nat → Option Int32 := fun n => match n with
  | 9 => some 65535
  | _ => none
def jX3 : Nat → Option Int64 := fun _ => none
def nX3 : Nat → Option (Nat × Nat × List Value) := fun _ => none
def fX4 : Nat → Option (Nat × Nat × FieldType × Bool) := fun n => match n with
  | 9 => some (3, 0, .array .int, true)
  | 15 => some (3, 1, .int, false)
  | 19 => some (3, 2, .array .int, true)
  | 22 => some (3, 3, .array .int, true)
  | 25 => some (3, 4, .int, false)
  | _ => none
def kX4 : Nat → Option Int32 := fun _ => none
def jX4 : Nat → Option Int64 := fun _ => none
def nX4 : Nat → Option (Nat × Nat × List Value) := fun _ => none
def fX5 : Nat → Option (Nat × Nat × FieldType × Bool) := fun n => match n with
  | 9 => some (4, 1, .array .int, true)
  | 15 => some (4, 2, .int, false)
  | 19 => some (4, 3, .int, false)
  | 22 => some (4, 4, .boolean, false)
  | 26 => some (4, 5, .int, false)
  | 29 => some (4, 6, .int, false)
  | 32 => some (4, 7, .int, false)
  | 35 => some (4, 8, .array .int, true)
  | 38 => some (4, 9, .array .int, true)
  | 41 => some (4, 10, .array .int, true)
  | 44 => some (4, 0, .object "HeaderSqueezer$PacketLog", true)
  | 73 => some (1, 0, .float, false)
  | 97 => some (1, 1, .float, false)
  | 100 => some (1, 2, .float, false)
  | 103 => some (1, 3, .float, false)
  | 106 => some (1, 4, .float, false)
  | _ => none
def kX5 : Nat → Option Int32 := fun _ => none
def jX5 : Nat → Option Int64 := fun _ => none
def nX5 : Nat → Option (Nat × Nat × List Value) := fun _ => none
def fX6 : Nat → Option (Nat × Nat × FieldType × Bool) := fun n => match n with
  | 12 => some (5, 2, .object "HeaderSqueezer$Link", true)
  | 18 => some (5, 3, .object "HeaderSqueezer$Link", true)
  | 26 => some (5, 0, .object "HeaderSqueezer$Sender", true)
  | 33 => some (5, 1, .object "HeaderSqueezer$Receiver", true)
  | 47 => some (4, 5, .int, false)
  | 51 => some (0, 1, .int, false)
  | 76 => some (2, 8, .float, false)
  | 80 => some (2, 6, .int, false)
  | 83 => some (4, 6, .int, false)
  | _ => none
def kX6 : Nat → Option Int32 := fun _ => none
def jX6 : Nat → Option Int64 := fun _ => none
def nX6 : Nat → Option (Nat × Nat × List Value) := fun n => match n with
  | 9 => some (0, 2, [.null, .int 0])
  | 21 => some (4, 11, [.null, .null, .int 0, .int 0, .int 0, .int 0, .int 0, .int 0, .null, .null, .null])
  | 30 => some (2, 11, [.null, .int 0, .int 0, .int 0, .int 0, .int 0, .int 0, .int 0, .null, .null, .null])
  | _ => none
def fX7 : Nat → Option (Nat × Nat × FieldType × Bool) := fun n => match n with
  | 9 => some (6, 0, .array .int, true)
  | 17 => some (6, 1, .array (.array .int), true)
  | _ => none
def kX7 : Nat → Option Int32 := fun _ => none
def jX7 : Nat → Option Int64 := fun _ => none
def nX7 : Nat → Option (Nat × Nat × List Value) := fun n => match n with
  | 15 => some (99, 0, [])
  | _ => none
def fX8 : Nat → Option (Nat × Nat × FieldType × Bool) := fun n => match n with
  | 15 => some (7, 0, .object "HeaderSqueezer$State", true)
  | 21 => some (7, 1, .array (.object "HeaderSqueezer$State"), true)
  | 28 => some (7, 4, .object "HeaderSqueezer$Script", true)
  | 55 => some (5, 0, .float, false)
  | 59 => some (4, 1, .float, false)
  | 69 => some (4, 2, .int, false)
  | 73 => some (4, 3, .int, false)
  | 96 => some (5, 2, .float, false)
  | 100 => some (0, 1, .int, false)
  | 115 => some (4, 5, .int, false)
  | 142 => some (0, 0, .float, false)
  | 149 => some (5, 3, .float, false)
  | 165 => some (5, 1, .float, false)
  | 169 => some (2, 1, .int, false)
  | 174 => some (2, 2, .int, false)
  | 177 => some (2, 3, .int, false)
  | 180 => some (2, 4, .int, false)
  | 185 => some (2, 9, .float, false)
  | 208 => some (2, 7, .int, false)
  | 211 => some (4, 7, .int, false)
  | 246 => some (7, 3, .int, false)
  | 251 => some (7, 2, .int, false)
  | _ => none
def kX8 : Nat → Option Int32 := fun n => match n with
  | 271 => some 65535
  | _ => none
def jX8 : Nat → Option Int64 := fun _ => none
def nX8 : Nat → Option (Nat × Nat × List Value) := fun n => match n with
  | 7 => some (1, 5, [.null, .null, .null, .null, .null])
  | 10 => some (5, 4, [.null, .null, .null, .null])
  | 25 => some (3, 5, [.null, .int 0, .null, .null, .int 0])
  | _ => none
def fX9 : Nat → Option (Nat × Nat × FieldType × Bool) := fun _ => none
def kX9 : Nat → Option Int32 := fun _ => none
def jX9 : Nat → Option Int64 := fun _ => none
def nX9 : Nat → Option (Nat × Nat × List Value) := fun _ => none
theorem tabX0 : qTab RX0 fX0 kX0 jX0 nX0 := by
  refine ⟨fun idx ci j ty fin h => ?_, fun n v h => ?_, fun n v h => ?_, fun idx ci N t h => ?_⟩
  · unfold fX0 at h
    split at h
    · cases h
      exact ⟨RX0, TX0, 2, tyX0, rfl, by decide, qw82, inqX0, tyX0_ok, nmX0, Or.inr ⟨rfl, rfl, fun _ => rfl⟩⟩
    · cases h
      exact ⟨RX0, TX0, 2, tyX0, rfl, by decide, qw84, inqX0, tyX0_ok, nmX0, Or.inr ⟨rfl, rfl, fun _ => rfl⟩⟩
    · cases h
  · cases h
  · cases h
  · cases h
theorem tabX1 : qTab RX1 fX1 kX1 jX1 nX1 := by
  refine ⟨fun idx ci j ty fin h => ?_, fun n v h => ?_, fun n v h => ?_, fun idx ci N t h => ?_⟩
  · unfold fX1 at h
    split at h
    · cases h
      exact ⟨RX1, TX1, 5, tyX1, rfl, by decide, qw44, inqX1, tyX1_ok, nmX1, Or.inr ⟨rfl, rfl, fun _ => rfl⟩⟩
    · cases h
      exact ⟨RX1, TX1, 5, tyX1, rfl, by decide, qw47, inqX1, tyX1_ok, nmX1, Or.inr ⟨rfl, rfl, fun _ => rfl⟩⟩
    · cases h
      exact ⟨RX1, TX1, 5, tyX1, rfl, by decide, qw50, inqX1, tyX1_ok, nmX1, Or.inr ⟨rfl, rfl, fun _ => rfl⟩⟩
    · cases h
      exact ⟨RX1, TX1, 5, tyX1, rfl, by decide, qw53, inqX1, tyX1_ok, nmX1, Or.inr ⟨rfl, rfl, fun _ => rfl⟩⟩
    · cases h
      exact ⟨RX1, TX1, 5, tyX1, rfl, by decide, qw56, inqX1, tyX1_ok, nmX1, Or.inr ⟨rfl, rfl, fun _ => rfl⟩⟩
    · cases h
  · cases h
  · cases h
  · unfold nX1 at h
    split at h
    · cases h
      exact Or.inl ⟨rfl, qw42⟩
    · cases h
theorem tabX2 : qTab RX2 fX2 kX2 jX2 nX2 := by
  refine ⟨fun idx ci j ty fin h => ?_, fun n v h => ?_, fun n v h => ?_, fun idx ci N t h => ?_⟩
  · unfold fX2 at h
    split at h
    · cases h
      exact ⟨RX2, TX2, 11, tyX2, rfl, by decide, qw163, inqX2, tyX2_ok, nmX2, Or.inr ⟨rfl, rfl, fun _ => rfl⟩⟩
    · cases h
      exact ⟨RX2, TX2, 11, tyX2, rfl, by decide, qw165, inqX2, tyX2_ok, nmX2, Or.inr ⟨rfl, rfl, fun _ => rfl⟩⟩
    · cases h
      exact ⟨RX2, TX2, 11, tyX2, rfl, by decide, qw167, inqX2, tyX2_ok, nmX2, Or.inr ⟨rfl, rfl, fun _ => rfl⟩⟩
    · cases h
      exact ⟨RX2, TX2, 11, tyX2, rfl, by decide, qw169, inqX2, tyX2_ok, nmX2, Or.inr ⟨rfl, rfl, fun _ => rfl⟩⟩
    · cases h
      exact ⟨RX2, TX2, 11, tyX2, rfl, by decide, qw171, inqX2, tyX2_ok, nmX2, Or.inr ⟨rfl, rfl, fun _ => rfl⟩⟩
    · cases h
      exact ⟨RX2, TX2, 11, tyX2, rfl, by decide, qw172, inqX2, tyX2_ok, nmX2, Or.inr ⟨rfl, rfl, fun _ => rfl⟩⟩
    · cases h
      exact ⟨RX2, TX2, 11, tyX2, rfl, by decide, qw174, inqX2, tyX2_ok, nmX2, Or.inr ⟨rfl, rfl, fun _ => rfl⟩⟩
    · cases h
      exact ⟨RX2, TX2, 11, tyX2, rfl, by decide, qw176, inqX2, tyX2_ok, nmX2, Or.inr ⟨rfl, rfl, fun _ => rfl⟩⟩
    · cases h
      exact ⟨RX2, TX2, 11, tyX2, rfl, by decide, qw178, inqX2, tyX2_ok, nmX2, Or.inr ⟨rfl, rfl, fun _ => rfl⟩⟩
    · cases h
      exact ⟨RX2, TX2, 11, tyX2, rfl, by decide, qw180, inqX2, tyX2_ok, nmX2, Or.inr ⟨rfl, rfl, fun _ => rfl⟩⟩
    · cases h
      exact ⟨RX2, TX2, 11, tyX2, rfl, by decide, qw162, inqX2, tyX2_ok, nmX2, Or.inr ⟨rfl, rfl, fun _ => rfl⟩⟩
    · cases h
      exact ⟨RX1, TX1, 5, tyX1, rfl, by decide, qw51, inqX1, tyX1_ok, nmX1, Or.inl rfl⟩
    · cases h
      exact ⟨RX1, TX1, 5, tyX1, rfl, by decide, qw45, inqX1, tyX1_ok, nmX1, Or.inl rfl⟩
    · cases h
      exact ⟨RX1, TX1, 5, tyX1, rfl, by decide, qw54, inqX1, tyX1_ok, nmX1, Or.inl rfl⟩
    · cases h
      exact ⟨RX1, TX1, 5, tyX1, rfl, by decide, qw48, inqX1, tyX1_ok, nmX1, Or.inl rfl⟩
    · cases h
  · cases h
  · cases h
  · unfold nX2 at h
    split at h
    · cases h
      exact Or.inr ⟨RX7, TX7, tyX7, rfl, qw145, qw146, qw16, inqX7, tyX7_ok, rfl⟩
    · cases h
theorem tabX3 : qTab RX3 fX3 kX3 jX3 nX3 := by
  refine ⟨fun idx ci j ty fin h => ?_, fun n v h => ?_, fun n v h => ?_, fun idx ci N t h => ?_⟩
  · cases h
  · unfold kX3 at h
    split at h
    · cases h
      exact qw317
    · cases h
  · cases h
  · cases h
theorem tabX4 : qTab RX4 fX4 kX4 jX4 nX4 := by
  refine ⟨fun idx ci j ty fin h => ?_, fun n v h => ?_, fun n v h => ?_, fun idx ci N t h => ?_⟩
  · unfold fX4 at h
    split at h
    · cases h
      exact ⟨RX4, TX4, 5, tyX4, rfl, by decide, qw228, inqX4, tyX4_ok, nmX4, Or.inr ⟨rfl, rfl, fun _ => rfl⟩⟩
    · cases h
      exact ⟨RX4, TX4, 5, tyX4, rfl, by decide, qw229, inqX4, tyX4_ok, nmX4, Or.inr ⟨rfl, rfl, fun _ => rfl⟩⟩
    · cases h
      exact ⟨RX4, TX4, 5, tyX4, rfl, by decide, qw230, inqX4, tyX4_ok, nmX4, Or.inr ⟨rfl, rfl, fun _ => rfl⟩⟩
    · cases h
      exact ⟨RX4, TX4, 5, tyX4, rfl, by decide, qw231, inqX4, tyX4_ok, nmX4, Or.inr ⟨rfl, rfl, fun _ => rfl⟩⟩
    · cases h
      exact ⟨RX4, TX4, 5, tyX4, rfl, by decide, qw232, inqX4, tyX4_ok, nmX4, Or.inr ⟨rfl, rfl, fun _ => rfl⟩⟩
    · cases h
  · cases h
  · cases h
  · cases h
theorem tabX5 : qTab RX5 fX5 kX5 jX5 nX5 := by
  refine ⟨fun idx ci j ty fin h => ?_, fun n v h => ?_, fun n v h => ?_, fun idx ci N t h => ?_⟩
  · unfold fX5 at h
    split at h
    · cases h
      exact ⟨RX5, TX5, 11, tyX5, rfl, by decide, qw99, inqX5, tyX5_ok, nmX5, Or.inr ⟨rfl, rfl, fun _ => rfl⟩⟩
    · cases h
      exact ⟨RX5, TX5, 11, tyX5, rfl, by decide, qw101, inqX5, tyX5_ok, nmX5, Or.inr ⟨rfl, rfl, fun _ => rfl⟩⟩
    · cases h
      exact ⟨RX5, TX5, 11, tyX5, rfl, by decide, qw103, inqX5, tyX5_ok, nmX5, Or.inr ⟨rfl, rfl, fun _ => rfl⟩⟩
    · cases h
      exact ⟨RX5, TX5, 11, tyX5, rfl, by decide, qw105, inqX5, tyX5_ok, nmX5, Or.inr ⟨rfl, rfl, fun _ => rfl⟩⟩
    · cases h
      exact ⟨RX5, TX5, 11, tyX5, rfl, by decide, qw106, inqX5, tyX5_ok, nmX5, Or.inr ⟨rfl, rfl, fun _ => rfl⟩⟩
    · cases h
      exact ⟨RX5, TX5, 11, tyX5, rfl, by decide, qw109, inqX5, tyX5_ok, nmX5, Or.inr ⟨rfl, rfl, fun _ => rfl⟩⟩
    · cases h
      exact ⟨RX5, TX5, 11, tyX5, rfl, by decide, qw111, inqX5, tyX5_ok, nmX5, Or.inr ⟨rfl, rfl, fun _ => rfl⟩⟩
    · cases h
      exact ⟨RX5, TX5, 11, tyX5, rfl, by decide, qw113, inqX5, tyX5_ok, nmX5, Or.inr ⟨rfl, rfl, fun _ => rfl⟩⟩
    · cases h
      exact ⟨RX5, TX5, 11, tyX5, rfl, by decide, qw114, inqX5, tyX5_ok, nmX5, Or.inr ⟨rfl, rfl, fun _ => rfl⟩⟩
    · cases h
      exact ⟨RX5, TX5, 11, tyX5, rfl, by decide, qw115, inqX5, tyX5_ok, nmX5, Or.inr ⟨rfl, rfl, fun _ => rfl⟩⟩
    · cases h
      exact ⟨RX5, TX5, 11, tyX5, rfl, by decide, qw98, inqX5, tyX5_ok, nmX5, Or.inr ⟨rfl, rfl, fun _ => rfl⟩⟩
    · cases h
      exact ⟨RX1, TX1, 5, tyX1, rfl, by decide, qw46, inqX1, tyX1_ok, nmX1, Or.inl rfl⟩
    · cases h
      exact ⟨RX1, TX1, 5, tyX1, rfl, by decide, qw49, inqX1, tyX1_ok, nmX1, Or.inl rfl⟩
    · cases h
      exact ⟨RX1, TX1, 5, tyX1, rfl, by decide, qw52, inqX1, tyX1_ok, nmX1, Or.inl rfl⟩
    · cases h
      exact ⟨RX1, TX1, 5, tyX1, rfl, by decide, qw55, inqX1, tyX1_ok, nmX1, Or.inl rfl⟩
    · cases h
      exact ⟨RX1, TX1, 5, tyX1, rfl, by decide, qw57, inqX1, tyX1_ok, nmX1, Or.inl rfl⟩
    · cases h
  · cases h
  · cases h
  · cases h
theorem tabX6 : qTab RX6 fX6 kX6 jX6 nX6 := by
  refine ⟨fun idx ci j ty fin h => ?_, fun n v h => ?_, fun n v h => ?_, fun idx ci N t h => ?_⟩
  · unfold fX6 at h
    split at h
    · cases h
      exact ⟨RX6, TX6, 4, tyX6, rfl, by decide, qw208, inqX6, tyX6_ok, nmX6, Or.inr ⟨rfl, rfl, fun _ => rfl⟩⟩
    · cases h
      exact ⟨RX6, TX6, 4, tyX6, rfl, by decide, qw210, inqX6, tyX6_ok, nmX6, Or.inr ⟨rfl, rfl, fun _ => rfl⟩⟩
    · cases h
      exact ⟨RX6, TX6, 4, tyX6, rfl, by decide, qw204, inqX6, tyX6_ok, nmX6, Or.inr ⟨rfl, rfl, fun _ => rfl⟩⟩
    · cases h
      exact ⟨RX6, TX6, 4, tyX6, rfl, by decide, qw206, inqX6, tyX6_ok, nmX6, Or.inr ⟨rfl, rfl, fun _ => rfl⟩⟩
    · cases h
      exact ⟨RX5, TX5, 11, tyX5, rfl, by decide, qw107, inqX5, tyX5_ok, nmX5, Or.inr ⟨rfl, rfl, fun h => by cases h⟩⟩
    · cases h
      exact ⟨RX0, TX0, 2, tyX0, rfl, by decide, qw85, inqX0, tyX0_ok, nmX0, Or.inr ⟨rfl, rfl, fun h => by cases h⟩⟩
    · cases h
      exact ⟨RX2, TX2, 11, tyX2, rfl, by decide, qw177, inqX2, tyX2_ok, nmX2, Or.inl rfl⟩
    · cases h
      exact ⟨RX2, TX2, 11, tyX2, rfl, by decide, qw173, inqX2, tyX2_ok, nmX2, Or.inr ⟨rfl, rfl, fun h => by cases h⟩⟩
    · cases h
      exact ⟨RX5, TX5, 11, tyX5, rfl, by decide, qw110, inqX5, tyX5_ok, nmX5, Or.inr ⟨rfl, rfl, fun h => by cases h⟩⟩
    · cases h
  · cases h
  · cases h
  · unfold nX6 at h
    split at h
    · cases h
      exact Or.inr ⟨RX0, TX0, tyX0, rfl, qw76, qw77, qw13, inqX0, tyX0_ok, rfl⟩
    · cases h
      exact Or.inr ⟨RX5, TX5, tyX5, rfl, qw92, qw93, qw14, inqX5, tyX5_ok, rfl⟩
    · cases h
      exact Or.inr ⟨RX2, TX2, tyX2, rfl, qw139, qw140, qw15, inqX2, tyX2_ok, rfl⟩
    · cases h
theorem tabX7 : qTab RX7 fX7 kX7 jX7 nX7 := by
  refine ⟨fun idx ci j ty fin h => ?_, fun n v h => ?_, fun n v h => ?_, fun idx ci N t h => ?_⟩
  · unfold fX7 at h
    split at h
    · cases h
      exact ⟨RX7, TX7, 2, tyX7, rfl, by decide, qw155, inqX7, tyX7_ok, nmX7, Or.inr ⟨rfl, rfl, fun _ => rfl⟩⟩
    · cases h
      exact ⟨RX7, TX7, 2, tyX7, rfl, by decide, qw156, inqX7, tyX7_ok, nmX7, Or.inr ⟨rfl, rfl, fun _ => rfl⟩⟩
    · cases h
  · cases h
  · cases h
  · unfold nX7 at h
    split at h
    · cases h
      exact Or.inl ⟨rfl, qw151⟩
    · cases h
theorem tabX8 : qTab RX8 fX8 kX8 jX8 nX8 := by
  refine ⟨fun idx ci j ty fin h => ?_, fun n v h => ?_, fun n v h => ?_, fun idx ci N t h => ?_⟩
  · unfold fX8 at h
    split at h
    · cases h
      exact ⟨RX8, TX8, 5, tyX8, rfl, by decide, qw244, inqX8, tyX8_ok, nmX8, Or.inr ⟨rfl, rfl, fun _ => rfl⟩⟩
    · cases h
      exact ⟨RX8, TX8, 5, tyX8, rfl, by decide, qw245, inqX8, tyX8_ok, nmX8, Or.inr ⟨rfl, rfl, fun _ => rfl⟩⟩
    · cases h
      exact ⟨RX8, TX8, 5, tyX8, rfl, by decide, qw248, inqX8, tyX8_ok, nmX8, Or.inr ⟨rfl, rfl, fun _ => rfl⟩⟩
    · cases h
      exact ⟨RX6, TX6, 4, tyX6, rfl, by decide, qw205, inqX6, tyX6_ok, nmX6, Or.inl rfl⟩
    · cases h
      exact ⟨RX5, TX5, 11, tyX5, rfl, by decide, qw100, inqX5, tyX5_ok, nmX5, Or.inl rfl⟩
    · cases h
      exact ⟨RX5, TX5, 11, tyX5, rfl, by decide, qw102, inqX5, tyX5_ok, nmX5, Or.inr ⟨rfl, rfl, fun h => by cases h⟩⟩
    · cases h
      exact ⟨RX5, TX5, 11, tyX5, rfl, by decide, qw104, inqX5, tyX5_ok, nmX5, Or.inr ⟨rfl, rfl, fun h => by cases h⟩⟩
    · cases h
      exact ⟨RX6, TX6, 4, tyX6, rfl, by decide, qw209, inqX6, tyX6_ok, nmX6, Or.inl rfl⟩
    · cases h
      exact ⟨RX0, TX0, 2, tyX0, rfl, by decide, qw86, inqX0, tyX0_ok, nmX0, Or.inr ⟨rfl, rfl, fun h => by cases h⟩⟩
    · cases h
      exact ⟨RX5, TX5, 11, tyX5, rfl, by decide, qw108, inqX5, tyX5_ok, nmX5, Or.inr ⟨rfl, rfl, fun h => by cases h⟩⟩
    · cases h
      exact ⟨RX0, TX0, 2, tyX0, rfl, by decide, qw83, inqX0, tyX0_ok, nmX0, Or.inl rfl⟩
    · cases h
      exact ⟨RX6, TX6, 4, tyX6, rfl, by decide, qw211, inqX6, tyX6_ok, nmX6, Or.inl rfl⟩
    · cases h
      exact ⟨RX6, TX6, 4, tyX6, rfl, by decide, qw207, inqX6, tyX6_ok, nmX6, Or.inl rfl⟩
    · cases h
      exact ⟨RX2, TX2, 11, tyX2, rfl, by decide, qw164, inqX2, tyX2_ok, nmX2, Or.inr ⟨rfl, rfl, fun h => by cases h⟩⟩
    · cases h
      exact ⟨RX2, TX2, 11, tyX2, rfl, by decide, qw166, inqX2, tyX2_ok, nmX2, Or.inr ⟨rfl, rfl, fun h => by cases h⟩⟩
    · cases h
      exact ⟨RX2, TX2, 11, tyX2, rfl, by decide, qw168, inqX2, tyX2_ok, nmX2, Or.inr ⟨rfl, rfl, fun h => by cases h⟩⟩
    · cases h
      exact ⟨RX2, TX2, 11, tyX2, rfl, by decide, qw170, inqX2, tyX2_ok, nmX2, Or.inr ⟨rfl, rfl, fun h => by cases h⟩⟩
    · cases h
      exact ⟨RX2, TX2, 11, tyX2, rfl, by decide, qw179, inqX2, tyX2_ok, nmX2, Or.inl rfl⟩
    · cases h
      exact ⟨RX2, TX2, 11, tyX2, rfl, by decide, qw175, inqX2, tyX2_ok, nmX2, Or.inr ⟨rfl, rfl, fun h => by cases h⟩⟩
    · cases h
      exact ⟨RX5, TX5, 11, tyX5, rfl, by decide, qw112, inqX5, tyX5_ok, nmX5, Or.inr ⟨rfl, rfl, fun h => by cases h⟩⟩
    · cases h
      exact ⟨RX8, TX8, 5, tyX8, rfl, by decide, qw247, inqX8, tyX8_ok, nmX8, Or.inr ⟨rfl, rfl, fun _ => rfl⟩⟩
    · cases h
      exact ⟨RX8, TX8, 5, tyX8, rfl, by decide, qw246, inqX8, tyX8_ok, nmX8, Or.inr ⟨rfl, rfl, fun _ => rfl⟩⟩
    · cases h
  · unfold kX8 at h
    split at h
    · cases h
      exact qw500
    · cases h
  · cases h
  · unfold nX8 at h
    split at h
    · cases h
      exact Or.inr ⟨RX1, TX1, tyX1, rfl, qw36, qw37, qw11, inqX1, tyX1_ok, rfl⟩
    · cases h
      exact Or.inr ⟨RX6, TX6, tyX6, rfl, qw70, qw71, qw12, inqX6, tyX6_ok, rfl⟩
    · cases h
      exact Or.inr ⟨RX4, TX4, tyX4, rfl, qw222, qw223, qw18, inqX4, tyX4_ok, rfl⟩
    · cases h
theorem tabX9 : qTab RX9 fX9 kX9 jX9 nX9 := by
  refine ⟨fun idx ci j ty fin h => ?_, fun n v h => ?_, fun n v h => ?_, fun idx ci N t h => ?_⟩
  · cases h
  · cases h
  · cases h
  · cases h
