theorem in_u0 : ∀ w ∈ u_ws RX0 TX0 2, w ∈ gtb := in_p _ [126, 128] (by decide +kernel) (by decide +kernel)
theorem in_u1 : ∀ w ∈ u_ws RX1 TX1 12, w ∈ gtb := in_p _ [184, 186, 188, 190, 192, 194, 196, 198, 200, 202, 204, 206] (by decide +kernel) (by decide +kernel)
theorem in_u2 : ∀ w ∈ u_ws RX2 TX2 3, w ∈ gtb := in_p _ [157, 159, 161] (by decide +kernel) (by decide +kernel)
theorem in_u3 : ∀ w ∈ u_ws RX3 TX3 6, w ∈ gtb := in_p _ [84, 86, 88, 90, 92, 94] (by decide +kernel) (by decide +kernel)
theorem in_u4 : ∀ w ∈ u_ws RX4 TX4 3, w ∈ gtb := in_p _ [108, 110, 112] (by decide +kernel) (by decide +kernel)
theorem in_u5 : ∀ w ∈ u_ws RX5 TX5 2, w ∈ gtb := in_p _ [139, 141] (by decide +kernel) (by decide +kernel)
theorem in_u6 : ∀ w ∈ u_ws RX6 TX6 8, w ∈ gtb := in_p _ [217, 219, 221, 223, 225, 227, 229, 231] (by decide +kernel) (by decide +kernel)
theorem in_u7 : ∀ w ∈ u_ws RX7 TX7 16, w ∈ gtb := in_p _ [682, 684, 686, 688, 690, 692, 694, 696, 698, 700, 702, 704, 706, 708, 710, 712] (by decide +kernel) (by decide +kernel)
set_option maxRecDepth 100000 in
theorem oiX6_1 : ∀ w ∈ ([.methodLink RX6 1 Lib.objectInit, .instanceMethod Lib.objectInit, .code Lib.objectInit ⟨#[0xb1]⟩ 1 none] : List Cond), w ∈ gtb := in_p [.methodLink RX6 1 Lib.objectInit, .instanceMethod Lib.objectInit, .code Lib.objectInit ⟨#[0xb1]⟩ 1 none] [63, 64, 65] rfl (by decide +kernel)
set_option maxRecDepth 100000 in
theorem ckX6_9 : CkI RX6 9 yX4_init cX4_init 2 0 := ⟨in_p [.methodLink RX6 9 yX4_init, .instanceMethod yX4_init, .initialized yX4_init.cls, .code yX4_init cX4_init 2 none] [68, 69, 49, 70] rfl (by decide +kernel), rfl, ⟨by decide +kernel, by decide +kernel, by decide +kernel⟩⟩
set_option maxRecDepth 100000 in
theorem noX6_7 : Nok RX6 7 4 := ⟨RX4, TX4, 3, tyX4, rfl, in_u4, tyX4_ok, in_p [Cond.classLink RX6 7 RX4] [66] rfl (by decide +kernel) _ List.mem_cons_self, in_p [Cond.instantiable RX4 3] [67] rfl (by decide +kernel) _ List.mem_cons_self, in_p [Cond.initialized RX4] [49] rfl (by decide +kernel) _ List.mem_cons_self, by decide, rfl, by decide +kernel⟩
set_option maxRecDepth 100000 in
theorem poX6_10 : Pok RX6 10 6 0 true (.object "SungSlides$State") true := ⟨RX6, TX6, 8, tyX6, rfl, by decide, in_u6, tyX6_ok, nmX6, in_p [Cond.fieldLink RX6 10 RX6 "now" "LSungSlides$State;"] [209] (by decide +kernel) (by decide +kernel) _ List.mem_cons_self, rfl, rfl, by decide +kernel, rfl, by decide, fun _ => rfl⟩
set_option maxRecDepth 100000 in
theorem poX6_16 : Pok RX6 16 6 1 true (.object "SungSlides$State") true := ⟨RX6, TX6, 8, tyX6, rfl, by decide, in_u6, tyX6_ok, nmX6, in_p [Cond.fieldLink RX6 16 RX6 "would" "LSungSlides$State;"] [210] (by decide +kernel) (by decide +kernel) _ List.mem_cons_self, rfl, rfl, by decide +kernel, rfl, by decide, fun _ => rfl⟩
set_option maxRecDepth 100000 in
theorem poX6_19 : Pok RX6 19 6 2 true (.object "SungSlides$State") true := ⟨RX6, TX6, 8, tyX6, rfl, by decide, in_u6, tyX6_ok, nmX6, in_p [Cond.fieldLink RX6 19 RX6 "snapshot" "LSungSlides$State;"] [211] (by decide +kernel) (by decide +kernel) _ List.mem_cons_self, rfl, rfl, by decide +kernel, rfl, by decide, fun _ => rfl⟩
set_option maxRecDepth 100000 in
theorem poX6_22 : Pok RX6 22 6 3 false .boolean false := ⟨RX6, TX6, 8, tyX6, rfl, by decide, in_u6, tyX6_ok, nmX6, in_p [Cond.fieldLink RX6 22 RX6 "hasSnapshot" "Z"] [212] (by decide +kernel) (by decide +kernel) _ List.mem_cons_self, rfl, rfl, by decide +kernel, rfl, by decide, fun _ => rfl⟩
set_option maxRecDepth 100000 in
theorem ckX6_28 : CkI RX6 28 yX0_init cX0_init 2 0 := ⟨in_p [.methodLink RX6 28 yX0_init, .instanceMethod yX0_init, .initialized yX0_init.cls, .code yX0_init cX0_init 2 none] [117, 118, 52, 119] rfl (by decide +kernel), rfl, ⟨by decide +kernel, by decide +kernel, by decide +kernel⟩⟩
set_option maxRecDepth 100000 in
theorem noX6_26 : Nok RX6 26 0 := ⟨RX0, TX0, 2, tyX0, rfl, in_u0, tyX0_ok, in_p [Cond.classLink RX6 26 RX0] [115] rfl (by decide +kernel) _ List.mem_cons_self, in_p [Cond.instantiable RX0 2] [116] rfl (by decide +kernel) _ List.mem_cons_self, in_p [Cond.initialized RX0] [52] rfl (by decide +kernel) _ List.mem_cons_self, by decide, rfl, by decide +kernel⟩
set_option maxRecDepth 100000 in
theorem poX6_29 : Pok RX6 29 6 4 true (.object "SungSlides$History") true := ⟨RX6, TX6, 8, tyX6, rfl, by decide, in_u6, tyX6_ok, nmX6, in_p [Cond.fieldLink RX6 29 RX6 "history" "LSungSlides$History;"] [213] (by decide +kernel) (by decide +kernel) _ List.mem_cons_self, rfl, rfl, by decide +kernel, rfl, by decide, fun _ => rfl⟩
set_option maxRecDepth 100000 in
theorem ckX6_35 : CkIN RX6 35 "SungSlides" yX5_init cX5_init 1 0 := ⟨in_p [.instanceMethod yX5_init, .initialized yX5_init.cls, .code yX5_init cX5_init 1 none] [134, 53, 135] rfl (by decide +kernel), rfl, ⟨by decide +kernel, by decide +kernel, by decide +kernel⟩, in_n _ 133 rfl rfl⟩
set_option maxRecDepth 100000 in
theorem noX6_33 : Nok RX6 33 5 := ⟨RX5, TX5, 2, tyX5, rfl, in_u5, tyX5_ok, in_p [Cond.classLink RX6 33 RX5] [131] rfl (by decide +kernel) _ List.mem_cons_self, in_p [Cond.instantiable RX5 2] [132] rfl (by decide +kernel) _ List.mem_cons_self, in_p [Cond.initialized RX5] [53] rfl (by decide +kernel) _ List.mem_cons_self, by decide, rfl, by decide +kernel⟩
set_option maxRecDepth 100000 in
theorem poX6_36 : Pok RX6 36 6 5 true (.object "SungSlides$Text") true := ⟨RX6, TX6, 8, tyX6, rfl, by decide, in_u6, tyX6_ok, nmX6, in_p [Cond.fieldLink RX6 36 RX6 "text" "LSungSlides$Text;"] [214] (by decide +kernel) (by decide +kernel) _ List.mem_cons_self, rfl, rfl, by decide +kernel, rfl, by decide, fun _ => rfl⟩
set_option maxRecDepth 100000 in
theorem ckX6_42 : CkIN RX6 42 "SungSlides" yX2_init cX2_init 1 0 := ⟨in_p [.instanceMethod yX2_init, .initialized yX2_init.cls, .code yX2_init cX2_init 1 none] [148, 54, 149] rfl (by decide +kernel), rfl, ⟨by decide +kernel, by decide +kernel, by decide +kernel⟩, in_n _ 147 rfl rfl⟩
set_option maxRecDepth 100000 in
theorem noX6_40 : Nok RX6 40 2 := ⟨RX2, TX2, 3, tyX2, rfl, in_u2, tyX2_ok, in_p [Cond.classLink RX6 40 RX2] [145] rfl (by decide +kernel) _ List.mem_cons_self, in_p [Cond.instantiable RX2 3] [146] rfl (by decide +kernel) _ List.mem_cons_self, in_p [Cond.initialized RX2] [54] rfl (by decide +kernel) _ List.mem_cons_self, by decide, rfl, by decide +kernel⟩
set_option maxRecDepth 100000 in
theorem poX6_43 : Pok RX6 43 6 6 true (.object "SungSlides$Reader") true := ⟨RX6, TX6, 8, tyX6, rfl, by decide, in_u6, tyX6_ok, nmX6, in_p [Cond.fieldLink RX6 43 RX6 "reader" "LSungSlides$Reader;"] [215] (by decide +kernel) (by decide +kernel) _ List.mem_cons_self, rfl, rfl, by decide +kernel, rfl, by decide, fun _ => rfl⟩
set_option maxRecDepth 100000 in
theorem ckX6_49 : CkIN RX6 49 "SungSlides" yX1_init cX1_init 1 0 := ⟨in_p [.instanceMethod yX1_init, .initialized yX1_init.cls, .code yX1_init cX1_init 1 none] [167, 55, 168] rfl (by decide +kernel), rfl, ⟨by decide +kernel, by decide +kernel, by decide +kernel⟩, in_n _ 166 rfl rfl⟩
set_option maxRecDepth 100000 in
theorem noX6_47 : Nok RX6 47 1 := ⟨RX1, TX1, 12, tyX1, rfl, in_u1, tyX1_ok, in_p [Cond.classLink RX6 47 RX1] [164] rfl (by decide +kernel) _ List.mem_cons_self, in_p [Cond.instantiable RX1 12] [165] rfl (by decide +kernel) _ List.mem_cons_self, in_p [Cond.initialized RX1] [55] rfl (by decide +kernel) _ List.mem_cons_self, by decide, rfl, by decide +kernel⟩
set_option maxRecDepth 100000 in
theorem poX6_50 : Pok RX6 50 6 7 true (.object "SungSlides$Judge") true := ⟨RX6, TX6, 8, tyX6, rfl, by decide, in_u6, tyX6_ok, nmX6, in_p [Cond.fieldLink RX6 50 RX6 "judge" "LSungSlides$Judge;"] [216] (by decide +kernel) (by decide +kernel) _ List.mem_cons_self, rfl, rfl, by decide +kernel, rfl, by decide, fun _ => rfl⟩
set_option maxRecDepth 100000 in
theorem ckX6_54 : CkS RX6 54 yX6_isWithin cX6_isWithin 3 (some .boolean) 3 := ⟨in_p [.methodLink RX6 54 yX6_isWithin, .static yX6_isWithin, .initialized RX6, .code yX6_isWithin cX6_isWithin 3 (some .boolean)] [238, 239, 48, 240] rfl (by decide +kernel), rfl, ⟨by decide +kernel, by decide +kernel, by decide +kernel⟩⟩
set_option maxRecDepth 100000 in
theorem foX6_10 : Fok RX6 10 6 0 true := ⟨RX6, TX6, 8, rfl, by decide, in_u6, in_p [Cond.fieldLink RX6 10 RX6 "now" "LSungSlides$State;"] [209] (by decide +kernel) (by decide +kernel) _ List.mem_cons_self, rfl, rfl, by decide⟩
set_option maxRecDepth 100000 in
theorem foX6_58 : Fok RX6 58 4 0 true := ⟨RX4, TX4, 3, rfl, by decide, in_u4, in_p [Cond.fieldLink RX6 58 RX4 "song" "LSungSlides$Song;"] [105] (by decide +kernel) (by decide +kernel) _ List.mem_cons_self, rfl, rfl, by decide⟩
set_option maxRecDepth 100000 in
theorem ckX6_62 : CkV RX6 62 yX3_hasRoomFor cX3_hasRoomFor 3 (some .boolean) 2 := ⟨in_p [.methodLink RX6 62 yX3_hasRoomFor, .instanceMethod yX3_hasRoomFor, .selects yX3_hasRoomFor.cls yX3_hasRoomFor yX3_hasRoomFor, .initialized yX3_hasRoomFor.cls, .code yX3_hasRoomFor cX3_hasRoomFor 3 (some .boolean)] [241, 242, 243, 50, 244] rfl (by decide +kernel), ⟨by decide +kernel, by decide +kernel, by decide +kernel⟩⟩
set_option maxRecDepth 100000 in
theorem foX6_29 : Fok RX6 29 6 4 true := ⟨RX6, TX6, 8, rfl, by decide, in_u6, in_p [Cond.fieldLink RX6 29 RX6 "history" "LSungSlides$History;"] [213] (by decide +kernel) (by decide +kernel) _ List.mem_cons_self, rfl, rfl, by decide⟩
set_option maxRecDepth 100000 in
theorem ckX6_68 : CkV RX6 68 yX0_record cX0_record 2 none 1 := ⟨in_p [.methodLink RX6 68 yX0_record, .instanceMethod yX0_record, .selects yX0_record.cls yX0_record yX0_record, .initialized yX0_record.cls, .code yX0_record cX0_record 2 none] [261, 262, 263, 52, 264] rfl (by decide +kernel), ⟨by decide +kernel, by decide +kernel, by decide +kernel⟩⟩
set_option maxRecDepth 100000 in
theorem ckX6_72 : CkV RX6 72 yX3_append cX3_append 8 (some .int) 5 := ⟨in_p [.methodLink RX6 72 yX3_append, .instanceMethod yX3_append, .selects yX3_append.cls yX3_append yX3_append, .initialized yX3_append.cls, .code yX3_append cX3_append 8 (some .int)] [279, 280, 281, 50, 282] rfl (by decide +kernel), ⟨by decide +kernel, by decide +kernel, by decide +kernel⟩⟩
set_option maxRecDepth 100000 in
theorem ckX6_76 : CkV RX6 76 yX3_size cX3_size 1 (some .int) 0 := ⟨in_p [.methodLink RX6 76 yX3_size, .instanceMethod yX3_size, .selects yX3_size.cls yX3_size yX3_size, .initialized yX3_size.cls, .code yX3_size cX3_size 1 (some .int)] [295, 296, 297, 50, 298] rfl (by decide +kernel), ⟨by decide +kernel, by decide +kernel, by decide +kernel⟩⟩
set_option maxRecDepth 100000 in
theorem ckX6_80 : CkV RX6 80 yX3_removeLast cX3_removeLast 1 (some .int) 0 := ⟨in_p [.methodLink RX6 80 yX3_removeLast, .instanceMethod yX3_removeLast, .selects yX3_removeLast.cls yX3_removeLast yX3_removeLast, .initialized yX3_removeLast.cls, .code yX3_removeLast cX3_removeLast 1 (some .int)] [299, 300, 301, 50, 302] rfl (by decide +kernel), ⟨by decide +kernel, by decide +kernel, by decide +kernel⟩⟩
set_option maxRecDepth 100000 in
theorem foX6_16 : Fok RX6 16 6 1 true := ⟨RX6, TX6, 8, rfl, by decide, in_u6, in_p [Cond.fieldLink RX6 16 RX6 "would" "LSungSlides$State;"] [210] (by decide +kernel) (by decide +kernel) _ List.mem_cons_self, rfl, rfl, by decide⟩
set_option maxRecDepth 100000 in
theorem foX6_43 : Fok RX6 43 6 6 true := ⟨RX6, TX6, 8, rfl, by decide, in_u6, in_p [Cond.fieldLink RX6 43 RX6 "reader" "LSungSlides$Reader;"] [215] (by decide +kernel) (by decide +kernel) _ List.mem_cons_self, rfl, rfl, by decide⟩
set_option maxRecDepth 100000 in
theorem foX6_36 : Fok RX6 36 6 5 true := ⟨RX6, TX6, 8, rfl, by decide, in_u6, in_p [Cond.fieldLink RX6 36 RX6 "text" "LSungSlides$Text;"] [214] (by decide +kernel) (by decide +kernel) _ List.mem_cons_self, rfl, rfl, by decide⟩
set_option maxRecDepth 100000 in
theorem ckX6_83 : CkV RX6 83 yX2_readInto cX2_readInto 5 none 2 := ⟨in_p [.methodLink RX6 83 yX2_readInto, .instanceMethod yX2_readInto, .selects yX2_readInto.cls yX2_readInto yX2_readInto, .initialized yX2_readInto.cls, .code yX2_readInto cX2_readInto 5 none] [307, 308, 309, 54, 310] rfl (by decide +kernel), ⟨by decide +kernel, by decide +kernel, by decide +kernel⟩⟩
set_option maxRecDepth 100000 in
theorem foX6_87 : Fok RX6 87 2 1 false := ⟨RX2, TX2, 3, rfl, by decide, in_u2, in_p [Cond.fieldLink RX6 87 RX2 "hasFault" "Z"] [154] (by decide +kernel) (by decide +kernel) _ List.mem_cons_self, rfl, rfl, by decide⟩
set_option maxRecDepth 100000 in
theorem foX6_90 : Fok RX6 90 2 0 false := ⟨RX2, TX2, 3, rfl, by decide, in_u2, in_p [Cond.fieldLink RX6 90 RX2 "place" "I"] [152] (by decide +kernel) (by decide +kernel) _ List.mem_cons_self, rfl, rfl, by decide⟩
set_option maxRecDepth 100000 in
theorem foX6_94 : Fok RX6 94 2 2 false := ⟨RX2, TX2, 3, rfl, by decide, in_u2, in_p [Cond.fieldLink RX6 94 RX2 "isTooLong" "Z"] [156] (by decide +kernel) (by decide +kernel) _ List.mem_cons_self, rfl, rfl, by decide⟩
set_option maxRecDepth 100000 in
theorem ckX6_97 : CkV RX6 97 yX3_copyFrom cX3_copyFrom 2 none 1 := ⟨in_p [.methodLink RX6 97 yX3_copyFrom, .instanceMethod yX3_copyFrom, .selects yX3_copyFrom.cls yX3_copyFrom yX3_copyFrom, .initialized yX3_copyFrom.cls, .code yX3_copyFrom cX3_copyFrom 2 none] [342, 275, 276, 50, 277] rfl (by decide +kernel), ⟨by decide +kernel, by decide +kernel, by decide +kernel⟩⟩
set_option maxRecDepth 100000 in
theorem ckX6_101 : CkS RX6 101 yX6_isSetting cX6_isSetting 1 (some .boolean) 1 := ⟨in_p [.methodLink RX6 101 yX6_isSetting, .static yX6_isSetting, .initialized RX6, .code yX6_isSetting cX6_isSetting 1 (some .boolean)] [347, 348, 48, 349] rfl (by decide +kernel), rfl, ⟨by decide +kernel, by decide +kernel, by decide +kernel⟩⟩
set_option maxRecDepth 100000 in
theorem ckX6_105 : CkS RX6 105 yX6_isValueOf cX6_isValueOf 2 (some .boolean) 2 := ⟨in_p [.methodLink RX6 105 yX6_isValueOf, .static yX6_isValueOf, .initialized RX6, .code yX6_isValueOf cX6_isValueOf 2 (some .boolean)] [350, 351, 48, 352] rfl (by decide +kernel), rfl, ⟨by decide +kernel, by decide +kernel, by decide +kernel⟩⟩
set_option maxRecDepth 100000 in
theorem ckX6_108 : CkV RX6 108 yX4_setting cX4_setting 2 (some .int) 1 := ⟨in_p [.methodLink RX6 108 yX4_setting, .instanceMethod yX4_setting, .selects yX4_setting.cls yX4_setting yX4_setting, .initialized yX4_setting.cls, .code yX4_setting cX4_setting 2 (some .int)] [357, 358, 359, 49, 360] rfl (by decide +kernel), ⟨by decide +kernel, by decide +kernel, by decide +kernel⟩⟩
set_option maxRecDepth 100000 in
theorem ckX6_112 : CkV RX6 112 yX4_change cX4_change 3 none 2 := ⟨in_p [.methodLink RX6 112 yX4_change, .instanceMethod yX4_change, .selects yX4_change.cls yX4_change yX4_change, .initialized yX4_change.cls, .code yX4_change cX4_change 3 none] [361, 362, 363, 49, 364] rfl (by decide +kernel), ⟨by decide +kernel, by decide +kernel, by decide +kernel⟩⟩
set_option maxRecDepth 100000 in
theorem ckX6_116 : CkS RX6 116 yX6_areTicks cX6_areTicks 3 (some .boolean) 3 := ⟨in_p [.methodLink RX6 116 yX6_areTicks, .static yX6_areTicks, .initialized RX6, .code yX6_areTicks cX6_areTicks 3 (some .boolean)] [369, 370, 48, 371] rfl (by decide +kernel), rfl, ⟨by decide +kernel, by decide +kernel, by decide +kernel⟩⟩
set_option maxRecDepth 100000 in
theorem ckX6_119 : CkV RX6 119 yX4_voice cX4_voice 5 none 3 := ⟨in_p [.methodLink RX6 119 yX4_voice, .instanceMethod yX4_voice, .selects yX4_voice.cls yX4_voice yX4_voice, .initialized yX4_voice.cls, .code yX4_voice cX4_voice 5 none] [372, 373, 374, 49, 375] rfl (by decide +kernel), ⟨by decide +kernel, by decide +kernel, by decide +kernel⟩⟩
set_option maxRecDepth 100000 in
theorem ckX6_123 : CkV RX6 123 yX6_hitsNow cX6_hitsNow 1 (some .int) 0 := ⟨in_p [.methodLink RX6 123 yX6_hitsNow, .instanceMethod yX6_hitsNow, .selects yX6_hitsNow.cls yX6_hitsNow yX6_hitsNow, .initialized yX6_hitsNow.cls, .code yX6_hitsNow cX6_hitsNow 1 (some .int)] [381, 383, 4, 48, 384] rfl (by decide +kernel), ⟨by decide +kernel, by decide +kernel, by decide +kernel⟩⟩
set_option maxRecDepth 100000 in
theorem ckX6_126 : CkV RX6 126 yX4_soundingTicks cX4_soundingTicks 3 (some .int) 0 := ⟨in_p [.methodLink RX6 126 yX4_soundingTicks, .instanceMethod yX4_soundingTicks, .selects yX4_soundingTicks.cls yX4_soundingTicks yX4_soundingTicks, .initialized yX4_soundingTicks.cls, .code yX4_soundingTicks cX4_soundingTicks 3 (some .int)] [490, 491, 492, 49, 493] rfl (by decide +kernel), ⟨by decide +kernel, by decide +kernel, by decide +kernel⟩⟩
set_option maxRecDepth 100000 in
theorem ckX6_129 : CkV RX6 129 yX3_has cX3_has 2 (some .boolean) 1 := ⟨in_p [.methodLink RX6 129 yX3_has, .instanceMethod yX3_has, .selects yX3_has.cls yX3_has yX3_has, .initialized yX3_has.cls, .code yX3_has cX3_has 2 (some .boolean)] [498, 254, 255, 50, 256] rfl (by decide +kernel), ⟨by decide +kernel, by decide +kernel, by decide +kernel⟩⟩
set_option maxRecDepth 100000 in
theorem ckX6_132 : CkV RX6 132 yX4_voiceAsWanted cX4_voiceAsWanted 5 none 2 := ⟨in_p [.methodLink RX6 132 yX4_voiceAsWanted, .instanceMethod yX4_voiceAsWanted, .selects yX4_voiceAsWanted.cls yX4_voiceAsWanted yX4_voiceAsWanted, .initialized yX4_voiceAsWanted.cls, .code yX4_voiceAsWanted cX4_voiceAsWanted 5 none] [499, 500, 501, 49, 502] rfl (by decide +kernel), ⟨by decide +kernel, by decide +kernel, by decide +kernel⟩⟩
set_option maxRecDepth 100000 in
theorem ckX6_135 : CkV RX6 135 yX5_isFull cX5_isFull 1 (some .boolean) 0 := ⟨in_p [.methodLink RX6 135 yX5_isFull, .instanceMethod yX5_isFull, .selects yX5_isFull.cls yX5_isFull yX5_isFull, .initialized yX5_isFull.cls, .code yX5_isFull cX5_isFull 1 (some .boolean)] [510, 511, 512, 53, 513] rfl (by decide +kernel), ⟨by decide +kernel, by decide +kernel, by decide +kernel⟩⟩
set_option maxRecDepth 100000 in
theorem ckX6_139 : CkV RX6 139 yX5_append cX5_append 2 (some .int) 1 := ⟨in_p [.methodLink RX6 139 yX5_append, .instanceMethod yX5_append, .selects yX5_append.cls yX5_append yX5_append, .initialized yX5_append.cls, .code yX5_append cX5_append 2 (some .int)] [514, 515, 516, 53, 517] rfl (by decide +kernel), ⟨by decide +kernel, by decide +kernel, by decide +kernel⟩⟩
set_option maxRecDepth 100000 in
theorem ckX6_142 : CkV RX6 142 yX5_empty cX5_empty 2 (some .int) 0 := ⟨in_p [.methodLink RX6 142 yX5_empty, .instanceMethod yX5_empty, .selects yX5_empty.cls yX5_empty yX5_empty, .initialized yX5_empty.cls, .code yX5_empty cX5_empty 2 (some .int)] [522, 523, 524, 53, 525] rfl (by decide +kernel), ⟨by decide +kernel, by decide +kernel, by decide +kernel⟩⟩
set_option maxRecDepth 100000 in
theorem ckX6_145 : CkV RX6 145 yX0_size cX0_size 1 (some .int) 0 := ⟨in_p [.methodLink RX6 145 yX0_size, .instanceMethod yX0_size, .selects yX0_size.cls yX0_size yX0_size, .initialized yX0_size.cls, .code yX0_size cX0_size 1 (some .int)] [530, 531, 532, 52, 533] rfl (by decide +kernel), ⟨by decide +kernel, by decide +kernel, by decide +kernel⟩⟩
set_option maxRecDepth 100000 in
theorem ckX6_146 : CkV RX6 146 yX0_takeBackInto cX0_takeBackInto 2 (some .int) 1 := ⟨in_p [.methodLink RX6 146 yX0_takeBackInto, .instanceMethod yX0_takeBackInto, .selects yX0_takeBackInto.cls yX0_takeBackInto yX0_takeBackInto, .initialized yX0_takeBackInto.cls, .code yX0_takeBackInto cX0_takeBackInto 2 (some .int)] [534, 535, 536, 52, 537] rfl (by decide +kernel), ⟨by decide +kernel, by decide +kernel, by decide +kernel⟩⟩
set_option maxRecDepth 100000 in
theorem foX6_19 : Fok RX6 19 6 2 true := ⟨RX6, TX6, 8, rfl, by decide, in_u6, in_p [Cond.fieldLink RX6 19 RX6 "snapshot" "LSungSlides$State;"] [211] (by decide +kernel) (by decide +kernel) _ List.mem_cons_self, rfl, rfl, by decide⟩
set_option maxRecDepth 100000 in
theorem ckX6_150 : CkV RX6 150 yX4_copyFrom cX4_copyFrom 2 none 1 := ⟨in_p [.methodLink RX6 150 yX4_copyFrom, .instanceMethod yX4_copyFrom, .selects yX4_copyFrom.cls yX4_copyFrom yX4_copyFrom, .initialized yX4_copyFrom.cls, .code yX4_copyFrom cX4_copyFrom 2 none] [542, 271, 272, 49, 273] rfl (by decide +kernel), ⟨by decide +kernel, by decide +kernel, by decide +kernel⟩⟩
set_option maxRecDepth 100000 in
theorem foX6_22 : Fok RX6 22 6 3 false := ⟨RX6, TX6, 8, rfl, by decide, in_u6, in_p [Cond.fieldLink RX6 22 RX6 "hasSnapshot" "Z"] [212] (by decide +kernel) (by decide +kernel) _ List.mem_cons_self, rfl, rfl, by decide⟩
set_option maxRecDepth 100000 in
theorem foX6_50 : Fok RX6 50 6 7 true := ⟨RX6, TX6, 8, rfl, by decide, in_u6, in_p [Cond.fieldLink RX6 50 RX6 "judge" "LSungSlides$Judge;"] [216] (by decide +kernel) (by decide +kernel) _ List.mem_cons_self, rfl, rfl, by decide⟩
set_option maxRecDepth 100000 in
theorem ckX6_152 : CkV RX6 152 yX1_judge cX1_judge 3 none 1 := ⟨in_p [.methodLink RX6 152 yX1_judge, .instanceMethod yX1_judge, .selects yX1_judge.cls yX1_judge yX1_judge, .initialized yX1_judge.cls, .code yX1_judge cX1_judge 3 none] [385, 386, 387, 55, 388] rfl (by decide +kernel), ⟨by decide +kernel, by decide +kernel, by decide +kernel⟩⟩
set_option maxRecDepth 100000 in
theorem ckX6_154 : CkV RX6 154 yX3_beginningOf cX3_beginningOf 2 (some .int) 1 := ⟨in_p [.methodLink RX6 154 yX3_beginningOf, .instanceMethod yX3_beginningOf, .selects yX3_beginningOf.cls yX3_beginningOf yX3_beginningOf, .initialized yX3_beginningOf.cls, .code yX3_beginningOf cX3_beginningOf 2 (some .int)] [551, 250, 251, 50, 252] rfl (by decide +kernel), ⟨by decide +kernel, by decide +kernel, by decide +kernel⟩⟩
set_option maxRecDepth 100000 in
theorem ckX6_157 : CkV RX6 157 yX3_lengthOf cX3_lengthOf 2 (some .int) 1 := ⟨in_p [.methodLink RX6 157 yX3_lengthOf, .instanceMethod yX3_lengthOf, .selects yX3_lengthOf.cls yX3_lengthOf yX3_lengthOf, .initialized yX3_lengthOf.cls, .code yX3_lengthOf cX3_lengthOf 2 (some .int)] [552, 258, 259, 50, 260] rfl (by decide +kernel), ⟨by decide +kernel, by decide +kernel, by decide +kernel⟩⟩
set_option maxRecDepth 100000 in
theorem ckX6_160 : CkV RX6 160 yX3_pitchOf cX3_pitchOf 2 (some .int) 1 := ⟨in_p [.methodLink RX6 160 yX3_pitchOf, .instanceMethod yX3_pitchOf, .selects yX3_pitchOf.cls yX3_pitchOf yX3_pitchOf, .initialized yX3_pitchOf.cls, .code yX3_pitchOf cX3_pitchOf 2 (some .int)] [553, 407, 408, 50, 409] rfl (by decide +kernel), ⟨by decide +kernel, by decide +kernel, by decide +kernel⟩⟩
set_option maxRecDepth 100000 in
theorem ckX6_163 : CkV RX6 163 yX3_endPitchOf cX3_endPitchOf 2 (some .int) 1 := ⟨in_p [.methodLink RX6 163 yX3_endPitchOf, .instanceMethod yX3_endPitchOf, .selects yX3_endPitchOf.cls yX3_endPitchOf yX3_endPitchOf, .initialized yX3_endPitchOf.cls, .code yX3_endPitchOf cX3_endPitchOf 2 (some .int)] [554, 411, 412, 50, 413] rfl (by decide +kernel), ⟨by decide +kernel, by decide +kernel, by decide +kernel⟩⟩
set_option maxRecDepth 100000 in
theorem ckX6_166 : CkV RX6 166 yX3_phraseOf cX3_phraseOf 2 (some .int) 1 := ⟨in_p [.methodLink RX6 166 yX3_phraseOf, .instanceMethod yX3_phraseOf, .selects yX3_phraseOf.cls yX3_phraseOf yX3_phraseOf, .initialized yX3_phraseOf.cls, .code yX3_phraseOf cX3_phraseOf 2 (some .int)] [555, 288, 289, 50, 290] rfl (by decide +kernel), ⟨by decide +kernel, by decide +kernel, by decide +kernel⟩⟩
set_option maxRecDepth 100000 in
theorem ckX6_169 : CkV RX6 169 yX3_barLinesOf cX3_barLinesOf 5 (some .int) 2 := ⟨in_p [.methodLink RX6 169 yX3_barLinesOf, .instanceMethod yX3_barLinesOf, .selects yX3_barLinesOf.cls yX3_barLinesOf yX3_barLinesOf, .initialized yX3_barLinesOf.cls, .code yX3_barLinesOf cX3_barLinesOf 5 (some .int)] [556, 557, 558, 50, 559] rfl (by decide +kernel), ⟨by decide +kernel, by decide +kernel, by decide +kernel⟩⟩
set_option maxRecDepth 100000 in
theorem ckX6_173 : CkV RX6 173 yX1_matchesOf cX1_matchesOf 2 (some .int) 1 := ⟨in_p [.methodLink RX6 173 yX1_matchesOf, .instanceMethod yX1_matchesOf, .selects yX1_matchesOf.cls yX1_matchesOf yX1_matchesOf, .initialized yX1_matchesOf.cls, .code yX1_matchesOf cX1_matchesOf 2 (some .int)] [560, 442, 443, 55, 444] rfl (by decide +kernel), ⟨by decide +kernel, by decide +kernel, by decide +kernel⟩⟩
set_option maxRecDepth 100000 in
theorem ckX6_176 : CkV RX6 176 yX1_shareOf cX1_shareOf 2 (some .int) 1 := ⟨in_p [.methodLink RX6 176 yX1_shareOf, .instanceMethod yX1_shareOf, .selects yX1_shareOf.cls yX1_shareOf yX1_shareOf, .initialized yX1_shareOf.cls, .code yX1_shareOf cX1_shareOf 2 (some .int)] [561, 453, 454, 55, 455] rfl (by decide +kernel), ⟨by decide +kernel, by decide +kernel, by decide +kernel⟩⟩
set_option maxRecDepth 100000 in
theorem ckX6_179 : CkV RX6 179 yX1_onsetOf cX1_onsetOf 2 (some .int) 1 := ⟨in_p [.methodLink RX6 179 yX1_onsetOf, .instanceMethod yX1_onsetOf, .selects yX1_onsetOf.cls yX1_onsetOf yX1_onsetOf, .initialized yX1_onsetOf.cls, .code yX1_onsetOf cX1_onsetOf 2 (some .int)] [562, 449, 450, 55, 451] rfl (by decide +kernel), ⟨by decide +kernel, by decide +kernel, by decide +kernel⟩⟩
set_option maxRecDepth 100000 in
theorem ckX6_182 : CkV RX6 182 yX1_reasonOf cX1_reasonOf 2 (some .int) 1 := ⟨in_p [.methodLink RX6 182 yX1_reasonOf, .instanceMethod yX1_reasonOf, .selects yX1_reasonOf.cls yX1_reasonOf yX1_reasonOf, .initialized yX1_reasonOf.cls, .code yX1_reasonOf cX1_reasonOf 2 (some .int)] [563, 564, 565, 55, 566] rfl (by decide +kernel), ⟨by decide +kernel, by decide +kernel, by decide +kernel⟩⟩
set_option maxRecDepth 100000 in
theorem ckX6_185 : CkV RX6 185 yX1_pointsOf cX1_pointsOf 2 (some .int) 1 := ⟨in_p [.methodLink RX6 185 yX1_pointsOf, .instanceMethod yX1_pointsOf, .selects yX1_pointsOf.cls yX1_pointsOf yX1_pointsOf, .initialized yX1_pointsOf.cls, .code yX1_pointsOf cX1_pointsOf 2 (some .int)] [567, 568, 569, 55, 570] rfl (by decide +kernel), ⟨by decide +kernel, by decide +kernel, by decide +kernel⟩⟩
set_option maxRecDepth 100000 in
theorem ckX6_188 : CkV RX6 188 yX1_rowAheadOf cX1_rowAheadOf 2 (some .int) 1 := ⟨in_p [.methodLink RX6 188 yX1_rowAheadOf, .instanceMethod yX1_rowAheadOf, .selects yX1_rowAheadOf.cls yX1_rowAheadOf yX1_rowAheadOf, .initialized yX1_rowAheadOf.cls, .code yX1_rowAheadOf cX1_rowAheadOf 2 (some .int)] [571, 572, 573, 55, 574] rfl (by decide +kernel), ⟨by decide +kernel, by decide +kernel, by decide +kernel⟩⟩
set_option maxRecDepth 100000 in
theorem ckX6_191 : CkV RX6 191 yX3_wantedOf cX3_wantedOf 5 (some .int) 2 := ⟨in_p [.methodLink RX6 191 yX3_wantedOf, .instanceMethod yX3_wantedOf, .selects yX3_wantedOf.cls yX3_wantedOf yX3_wantedOf, .initialized yX3_wantedOf.cls, .code yX3_wantedOf cX3_wantedOf 5 (some .int)] [579, 403, 404, 50, 405] rfl (by decide +kernel), ⟨by decide +kernel, by decide +kernel, by decide +kernel⟩⟩
set_option maxRecDepth 100000 in
theorem ckX6_194 : CkV RX6 194 yX4_sungAt cX4_sungAt 2 (some .int) 1 := ⟨in_p [.methodLink RX6 194 yX4_sungAt, .instanceMethod yX4_sungAt, .selects yX4_sungAt.cls yX4_sungAt yX4_sungAt, .initialized yX4_sungAt.cls, .code yX4_sungAt cX4_sungAt 2 (some .int)] [584, 399, 400, 49, 401] rfl (by decide +kernel), ⟨by decide +kernel, by decide +kernel, by decide +kernel⟩⟩
set_option maxRecDepth 100000 in
theorem maX6_197 : ∀ w ∈ ([.methodLink RX6 197 Lib.Math.min.name, .static Lib.Math.min.name, .initialized "java/lang/Math", .code Lib.Math.min.name Lib.Math.min.code 2 (some .int)] : List Cond), w ∈ gtb := in_p [.methodLink RX6 197 Lib.Math.min.name, .static Lib.Math.min.name, .initialized "java/lang/Math", .code Lib.Math.min.name Lib.Math.min.code 2 (some .int)] [589, 423, 57, 424] rfl (by decide +kernel)
set_option maxRecDepth 100000 in
theorem maX6_202 : ∀ w ∈ ([.methodLink RX6 202 Lib.Math.max.name, .static Lib.Math.max.name, .initialized "java/lang/Math", .code Lib.Math.max.name Lib.Math.max.code 2 (some .int)] : List Cond), w ∈ gtb := in_p [.methodLink RX6 202 Lib.Math.max.name, .static Lib.Math.max.name, .initialized "java/lang/Math", .code Lib.Math.max.name Lib.Math.max.code 2 (some .int)] [590, 476, 57, 477] rfl (by decide +kernel)
set_option maxRecDepth 100000 in
theorem ckX6_205 : CkV RX6 205 yX3_phraseCount cX3_phraseCount 1 (some .int) 0 := ⟨in_p [.methodLink RX6 205 yX3_phraseCount, .instanceMethod yX3_phraseCount, .selects yX3_phraseCount.cls yX3_phraseCount yX3_phraseCount, .initialized yX3_phraseCount.cls, .code yX3_phraseCount cX3_phraseCount 1 (some .int)] [595, 284, 285, 50, 286] rfl (by decide +kernel), ⟨by decide +kernel, by decide +kernel, by decide +kernel⟩⟩
set_option maxRecDepth 100000 in
theorem ckX6_208 : CkV RX6 208 yX3_firstOfPhrase cX3_firstOfPhrase 3 (some .int) 1 := ⟨in_p [.methodLink RX6 208 yX3_firstOfPhrase, .instanceMethod yX3_firstOfPhrase, .selects yX3_firstOfPhrase.cls yX3_firstOfPhrase yX3_firstOfPhrase, .initialized yX3_firstOfPhrase.cls, .code yX3_firstOfPhrase cX3_firstOfPhrase 3 (some .int)] [596, 597, 598, 50, 599] rfl (by decide +kernel), ⟨by decide +kernel, by decide +kernel, by decide +kernel⟩⟩
set_option maxRecDepth 100000 in
theorem ckX6_211 : CkV RX6 211 yX3_sizeOfPhrase cX3_sizeOfPhrase 4 (some .int) 1 := ⟨in_p [.methodLink RX6 211 yX3_sizeOfPhrase, .instanceMethod yX3_sizeOfPhrase, .selects yX3_sizeOfPhrase.cls yX3_sizeOfPhrase yX3_sizeOfPhrase, .initialized yX3_sizeOfPhrase.cls, .code yX3_sizeOfPhrase cX3_sizeOfPhrase 4 (some .int)] [600, 480, 481, 50, 482] rfl (by decide +kernel), ⟨by decide +kernel, by decide +kernel, by decide +kernel⟩⟩
set_option maxRecDepth 100000 in
theorem ckX6_214 : CkV RX6 214 yX1_phraseHitsOf cX1_phraseHitsOf 2 (some .int) 1 := ⟨in_p [.methodLink RX6 214 yX1_phraseHitsOf, .instanceMethod yX1_phraseHitsOf, .selects yX1_phraseHitsOf.cls yX1_phraseHitsOf yX1_phraseHitsOf, .initialized yX1_phraseHitsOf.cls, .code yX1_phraseHitsOf cX1_phraseHitsOf 2 (some .int)] [601, 602, 603, 55, 604] rfl (by decide +kernel), ⟨by decide +kernel, by decide +kernel, by decide +kernel⟩⟩
set_option maxRecDepth 100000 in
theorem ckX6_217 : CkV RX6 217 yX1_phrasePointsOf cX1_phrasePointsOf 2 (some .int) 1 := ⟨in_p [.methodLink RX6 217 yX1_phrasePointsOf, .instanceMethod yX1_phrasePointsOf, .selects yX1_phrasePointsOf.cls yX1_phrasePointsOf yX1_phrasePointsOf, .initialized yX1_phrasePointsOf.cls, .code yX1_phrasePointsOf cX1_phrasePointsOf 2 (some .int)] [605, 606, 607, 55, 608] rfl (by decide +kernel), ⟨by decide +kernel, by decide +kernel, by decide +kernel⟩⟩
set_option maxRecDepth 100000 in
theorem ckX6_220 : CkV RX6 220 yX1_longestRowOf cX1_longestRowOf 2 (some .int) 1 := ⟨in_p [.methodLink RX6 220 yX1_longestRowOf, .instanceMethod yX1_longestRowOf, .selects yX1_longestRowOf.cls yX1_longestRowOf yX1_longestRowOf, .initialized yX1_longestRowOf.cls, .code yX1_longestRowOf cX1_longestRowOf 2 (some .int)] [609, 610, 611, 55, 612] rfl (by decide +kernel), ⟨by decide +kernel, by decide +kernel, by decide +kernel⟩⟩
set_option maxRecDepth 100000 in
theorem ckX6_223 : CkV RX6 223 yX3_ticks cX3_ticks 1 (some .int) 0 := ⟨in_p [.methodLink RX6 223 yX3_ticks, .instanceMethod yX3_ticks, .selects yX3_ticks.cls yX3_ticks yX3_ticks, .initialized yX3_ticks.cls, .code yX3_ticks cX3_ticks 1 (some .int)] [617, 246, 247, 50, 248] rfl (by decide +kernel), ⟨by decide +kernel, by decide +kernel, by decide +kernel⟩⟩
set_option maxRecDepth 100000 in
theorem ckX6_226 : CkV RX6 226 yX4_onsets cX4_onsets 3 (some .int) 0 := ⟨in_p [.methodLink RX6 226 yX4_onsets, .instanceMethod yX4_onsets, .selects yX4_onsets.cls yX4_onsets yX4_onsets, .initialized yX4_onsets.cls, .code yX4_onsets cX4_onsets 3 (some .int)] [618, 619, 620, 49, 621] rfl (by decide +kernel), ⟨by decide +kernel, by decide +kernel, by decide +kernel⟩⟩
set_option maxRecDepth 100000 in
theorem ckX6_229 : CkV RX6 229 yX6_pointsOf cX6_pointsOf 2 (some .int) 1 := ⟨in_p [.methodLink RX6 229 yX6_pointsOf, .instanceMethod yX6_pointsOf, .selects yX6_pointsOf.cls yX6_pointsOf yX6_pointsOf, .initialized yX6_pointsOf.cls, .code yX6_pointsOf cX6_pointsOf 2 (some .int)] [622, 624, 10, 48, 625] rfl (by decide +kernel), ⟨by decide +kernel, by decide +kernel, by decide +kernel⟩⟩
set_option maxRecDepth 100000 in
theorem ckX6_231 : CkV RX6 231 yX6_mostPoints cX6_mostPoints 1 (some .int) 0 := ⟨in_p [.methodLink RX6 231 yX6_mostPoints, .instanceMethod yX6_mostPoints, .selects yX6_mostPoints.cls yX6_mostPoints yX6_mostPoints, .initialized yX6_mostPoints.cls, .code yX6_mostPoints cX6_mostPoints 1 (some .int)] [626, 628, 11, 48, 629] rfl (by decide +kernel), ⟨by decide +kernel, by decide +kernel, by decide +kernel⟩⟩
set_option maxRecDepth 100000 in
theorem ckX6_234 : CkV RX6 234 yX5_size cX5_size 1 (some .int) 0 := ⟨in_p [.methodLink RX6 234 yX5_size, .instanceMethod yX5_size, .selects yX5_size.cls yX5_size yX5_size, .initialized yX5_size.cls, .code yX5_size cX5_size 1 (some .int)] [635, 339, 340, 53, 341] rfl (by decide +kernel), ⟨by decide +kernel, by decide +kernel, by decide +kernel⟩⟩
set_option maxRecDepth 100000 in
theorem ckX6_235 : CkV RX6 235 yX6_pointsIfShifted cX6_pointsIfShifted 3 (some .int) 2 := ⟨in_p [.methodLink RX6 235 yX6_pointsIfShifted, .instanceMethod yX6_pointsIfShifted, .selects yX6_pointsIfShifted.cls yX6_pointsIfShifted yX6_pointsIfShifted, .initialized yX6_pointsIfShifted.cls, .code yX6_pointsIfShifted cX6_pointsIfShifted 3 (some .int)] [640, 642, 12, 48, 643] rfl (by decide +kernel), ⟨by decide +kernel, by decide +kernel, by decide +kernel⟩⟩
set_option maxRecDepth 100000 in
theorem gsX6_238 : Cond.fieldLink RX6 238 "SungSlides" (stN 1) "[I" ∈ gtb := in_p [Cond.fieldLink RX6 238 "SungSlides" (stN 1) "[I"] [353] rfl (by decide +kernel) _ List.mem_cons_self
set_option maxRecDepth 100000 in
theorem gsX6_242 : Cond.fieldLink RX6 242 "SungSlides" (stN 2) "[I" ∈ gtb := in_p [Cond.fieldLink RX6 242 "SungSlides" (stN 2) "[I"] [355] rfl (by decide +kernel) _ List.mem_cons_self
set_option maxRecDepth 100000 in
theorem foX6_245 : Fok RX6 245 1 10 false := ⟨RX1, TX1, 12, rfl, by decide, in_u1, in_p [Cond.fieldLink RX6 245 RX1 "hits" "I"] [181] (by decide +kernel) (by decide +kernel) _ List.mem_cons_self, rfl, rfl, by decide⟩
set_option maxRecDepth 100000 in
theorem foX6_248 : Fok RX6 248 1 11 false := ⟨RX1, TX1, 12, rfl, by decide, in_u1, in_p [Cond.fieldLink RX6 248 RX1 "points" "I"] [183] (by decide +kernel) (by decide +kernel) _ List.mem_cons_self, rfl, rfl, by decide⟩
set_option maxRecDepth 100000 in
theorem ckX6_251 : CkV RX6 251 yX1_judgePerfect cX1_judgePerfect 4 none 1 := ⟨in_p [.methodLink RX6 251 yX1_judgePerfect, .instanceMethod yX1_judgePerfect, .selects yX1_judgePerfect.cls yX1_judgePerfect yX1_judgePerfect, .initialized yX1_judgePerfect.cls, .code yX1_judgePerfect cX1_judgePerfect 4 none] [630, 631, 632, 55, 633] rfl (by decide +kernel), ⟨by decide +kernel, by decide +kernel, by decide +kernel⟩⟩
set_option maxRecDepth 100000 in
theorem ckX6_254 : CkV RX6 254 yX4_voiceShifted cX4_voiceShifted 6 none 3 := ⟨in_p [.methodLink RX6 254 yX4_voiceShifted, .instanceMethod yX4_voiceShifted, .selects yX4_voiceShifted.cls yX4_voiceShifted yX4_voiceShifted, .initialized yX4_voiceShifted.cls, .code yX4_voiceShifted cX4_voiceShifted 6 none] [644, 645, 646, 49, 647] rfl (by decide +kernel), ⟨by decide +kernel, by decide +kernel, by decide +kernel⟩⟩
set_option maxRecDepth 100000 in
theorem oiX3_3 : ∀ w ∈ ([.methodLink RX3 3 Lib.objectInit, .instanceMethod Lib.objectInit, .code Lib.objectInit ⟨#[0xb1]⟩ 1 none] : List Cond), w ∈ gtb := in_p [.methodLink RX3 3 Lib.objectInit, .instanceMethod Lib.objectInit, .code Lib.objectInit ⟨#[0xb1]⟩ 1 none] [77, 64, 65] rfl (by decide +kernel)
set_option maxRecDepth 100000 in
theorem ac_int : Cond.arrayClass .int ∈ gtb := in_p [Cond.arrayClass .int] [97] rfl (by decide +kernel) _ List.mem_cons_self
set_option maxRecDepth 100000 in
theorem poX3_9 : Pok RX3 9 3 0 true (.array .int) true := ⟨RX3, TX3, 6, tyX3, rfl, by decide, in_u3, tyX3_ok, nmX3, in_p [Cond.fieldLink RX3 9 RX3 "beginnings" "[I"] [78] (by decide +kernel) (by decide +kernel) _ List.mem_cons_self, rfl, rfl, by decide +kernel, rfl, by decide, fun _ => rfl⟩
set_option maxRecDepth 100000 in
theorem poX3_15 : Pok RX3 15 3 1 true (.array .int) true := ⟨RX3, TX3, 6, tyX3, rfl, by decide, in_u3, tyX3_ok, nmX3, in_p [Cond.fieldLink RX3 15 RX3 "lengths" "[I"] [79] (by decide +kernel) (by decide +kernel) _ List.mem_cons_self, rfl, rfl, by decide +kernel, rfl, by decide, fun _ => rfl⟩
set_option maxRecDepth 100000 in
theorem poX3_18 : Pok RX3 18 3 2 true (.array .int) true := ⟨RX3, TX3, 6, tyX3, rfl, by decide, in_u3, tyX3_ok, nmX3, in_p [Cond.fieldLink RX3 18 RX3 "pitches" "[I"] [80] (by decide +kernel) (by decide +kernel) _ List.mem_cons_self, rfl, rfl, by decide +kernel, rfl, by decide, fun _ => rfl⟩
set_option maxRecDepth 100000 in
theorem poX3_21 : Pok RX3 21 3 3 true (.array .int) true := ⟨RX3, TX3, 6, tyX3, rfl, by decide, in_u3, tyX3_ok, nmX3, in_p [Cond.fieldLink RX3 21 RX3 "endPitches" "[I"] [81] (by decide +kernel) (by decide +kernel) _ List.mem_cons_self, rfl, rfl, by decide +kernel, rfl, by decide, fun _ => rfl⟩
set_option maxRecDepth 100000 in
theorem poX3_24 : Pok RX3 24 3 4 true (.array .int) true := ⟨RX3, TX3, 6, tyX3, rfl, by decide, in_u3, tyX3_ok, nmX3, in_p [Cond.fieldLink RX3 24 RX3 "phrases" "[I"] [82] (by decide +kernel) (by decide +kernel) _ List.mem_cons_self, rfl, rfl, by decide +kernel, rfl, by decide, fun _ => rfl⟩
set_option maxRecDepth 100000 in
theorem poX3_27 : Pok RX3 27 3 5 false .int false := ⟨RX3, TX3, 6, tyX3, rfl, by decide, in_u3, tyX3_ok, nmX3, in_p [Cond.fieldLink RX3 27 RX3 "count" "I"] [83] (by decide +kernel) (by decide +kernel) _ List.mem_cons_self, rfl, rfl, by decide +kernel, rfl, by decide, fun _ => rfl⟩
set_option maxRecDepth 100000 in
theorem foX3_27 : Fok RX3 27 3 5 false := ⟨RX3, TX3, 6, rfl, by decide, in_u3, in_p [Cond.fieldLink RX3 27 RX3 "count" "I"] [83] (by decide +kernel) (by decide +kernel) _ List.mem_cons_self, rfl, rfl, by decide⟩
set_option maxRecDepth 100000 in
theorem ckX3_31 : CkV RX3 31 yX3_has cX3_has 2 (some .boolean) 1 := ⟨in_p [.methodLink RX3 31 yX3_has, .instanceMethod yX3_has, .selects yX3_has.cls yX3_has yX3_has, .initialized yX3_has.cls, .code yX3_has cX3_has 2 (some .boolean)] [253, 254, 255, 50, 256] rfl (by decide +kernel), ⟨by decide +kernel, by decide +kernel, by decide +kernel⟩⟩
set_option maxRecDepth 100000 in
theorem foX3_9 : Fok RX3 9 3 0 true := ⟨RX3, TX3, 6, rfl, by decide, in_u3, in_p [Cond.fieldLink RX3 9 RX3 "beginnings" "[I"] [78] (by decide +kernel) (by decide +kernel) _ List.mem_cons_self, rfl, rfl, by decide⟩
set_option maxRecDepth 100000 in
theorem foX3_15 : Fok RX3 15 3 1 true := ⟨RX3, TX3, 6, rfl, by decide, in_u3, in_p [Cond.fieldLink RX3 15 RX3 "lengths" "[I"] [79] (by decide +kernel) (by decide +kernel) _ List.mem_cons_self, rfl, rfl, by decide⟩
set_option maxRecDepth 100000 in
theorem foX3_18 : Fok RX3 18 3 2 true := ⟨RX3, TX3, 6, rfl, by decide, in_u3, in_p [Cond.fieldLink RX3 18 RX3 "pitches" "[I"] [80] (by decide +kernel) (by decide +kernel) _ List.mem_cons_self, rfl, rfl, by decide⟩
set_option maxRecDepth 100000 in
theorem foX3_21 : Fok RX3 21 3 3 true := ⟨RX3, TX3, 6, rfl, by decide, in_u3, in_p [Cond.fieldLink RX3 21 RX3 "endPitches" "[I"] [81] (by decide +kernel) (by decide +kernel) _ List.mem_cons_self, rfl, rfl, by decide⟩
set_option maxRecDepth 100000 in
theorem foX3_24 : Fok RX3 24 3 4 true := ⟨RX3, TX3, 6, rfl, by decide, in_u3, in_p [Cond.fieldLink RX3 24 RX3 "phrases" "[I"] [82] (by decide +kernel) (by decide +kernel) _ List.mem_cons_self, rfl, rfl, by decide⟩
set_option maxRecDepth 100000 in
theorem ckX3_35 : CkV RX3 35 yX3_beginningOf cX3_beginningOf 2 (some .int) 1 := ⟨in_p [.methodLink RX3 35 yX3_beginningOf, .instanceMethod yX3_beginningOf, .selects yX3_beginningOf.cls yX3_beginningOf yX3_beginningOf, .initialized yX3_beginningOf.cls, .code yX3_beginningOf cX3_beginningOf 2 (some .int)] [249, 250, 251, 50, 252] rfl (by decide +kernel), ⟨by decide +kernel, by decide +kernel, by decide +kernel⟩⟩
set_option maxRecDepth 100000 in
theorem ckX3_39 : CkV RX3 39 yX3_lengthOf cX3_lengthOf 2 (some .int) 1 := ⟨in_p [.methodLink RX3 39 yX3_lengthOf, .instanceMethod yX3_lengthOf, .selects yX3_lengthOf.cls yX3_lengthOf yX3_lengthOf, .initialized yX3_lengthOf.cls, .code yX3_lengthOf cX3_lengthOf 2 (some .int)] [257, 258, 259, 50, 260] rfl (by decide +kernel), ⟨by decide +kernel, by decide +kernel, by decide +kernel⟩⟩
set_option maxRecDepth 100000 in
theorem ckX3_42 : CkV RX3 42 yX3_phraseOf cX3_phraseOf 2 (some .int) 1 := ⟨in_p [.methodLink RX3 42 yX3_phraseOf, .instanceMethod yX3_phraseOf, .selects yX3_phraseOf.cls yX3_phraseOf yX3_phraseOf, .initialized yX3_phraseOf.cls, .code yX3_phraseOf cX3_phraseOf 2 (some .int)] [287, 288, 289, 50, 290] rfl (by decide +kernel), ⟨by decide +kernel, by decide +kernel, by decide +kernel⟩⟩
set_option maxRecDepth 100000 in
theorem ckX3_45 : CkV RX3 45 yX3_pitchOf cX3_pitchOf 2 (some .int) 1 := ⟨in_p [.methodLink RX3 45 yX3_pitchOf, .instanceMethod yX3_pitchOf, .selects yX3_pitchOf.cls yX3_pitchOf yX3_pitchOf, .initialized yX3_pitchOf.cls, .code yX3_pitchOf cX3_pitchOf 2 (some .int)] [406, 407, 408, 50, 409] rfl (by decide +kernel), ⟨by decide +kernel, by decide +kernel, by decide +kernel⟩⟩
set_option maxRecDepth 100000 in
theorem ckX3_48 : CkV RX3 48 yX3_endPitchOf cX3_endPitchOf 2 (some .int) 1 := ⟨in_p [.methodLink RX3 48 yX3_endPitchOf, .instanceMethod yX3_endPitchOf, .selects yX3_endPitchOf.cls yX3_endPitchOf yX3_endPitchOf, .initialized yX3_endPitchOf.cls, .code yX3_endPitchOf cX3_endPitchOf 2 (some .int)] [410, 411, 412, 50, 413] rfl (by decide +kernel), ⟨by decide +kernel, by decide +kernel, by decide +kernel⟩⟩
set_option maxRecDepth 100000 in
theorem ckX3_51 : CkV RX3 51 yX3_ticks cX3_ticks 1 (some .int) 0 := ⟨in_p [.methodLink RX3 51 yX3_ticks, .instanceMethod yX3_ticks, .selects yX3_ticks.cls yX3_ticks yX3_ticks, .initialized yX3_ticks.cls, .code yX3_ticks cX3_ticks 1 (some .int)] [245, 246, 247, 50, 248] rfl (by decide +kernel), ⟨by decide +kernel, by decide +kernel, by decide +kernel⟩⟩
set_option maxRecDepth 100000 in
theorem ckX3_55 : CkV RX3 55 yX3_phraseCount cX3_phraseCount 1 (some .int) 0 := ⟨in_p [.methodLink RX3 55 yX3_phraseCount, .instanceMethod yX3_phraseCount, .selects yX3_phraseCount.cls yX3_phraseCount yX3_phraseCount, .initialized yX3_phraseCount.cls, .code yX3_phraseCount cX3_phraseCount 1 (some .int)] [283, 284, 285, 50, 286] rfl (by decide +kernel), ⟨by decide +kernel, by decide +kernel, by decide +kernel⟩⟩
set_option maxRecDepth 100000 in
theorem coX3_58 : ∀ w ∈ ([.methodLink RX3 58 arraycopyName, .native arraycopyName, .static arraycopyName, .initialized "java/lang/System"] : List Cond), w ∈ gtb := in_p [.methodLink RX3 58 arraycopyName, .native arraycopyName, .static arraycopyName, .initialized "java/lang/System"] [278, 102, 101, 51] rfl (by decide +kernel)
set_option maxRecDepth 100000 in
theorem oiX4_3 : ∀ w ∈ ([.methodLink RX4 3 Lib.objectInit, .instanceMethod Lib.objectInit, .code Lib.objectInit ⟨#[0xb1]⟩ 1 none] : List Cond), w ∈ gtb := in_p [.methodLink RX4 3 Lib.objectInit, .instanceMethod Lib.objectInit, .code Lib.objectInit ⟨#[0xb1]⟩ 1 none] [71, 64, 65] rfl (by decide +kernel)
set_option maxRecDepth 100000 in
theorem ckX4_11 : CkIN RX4 11 "SungSlides" yX3_init cX3_init 1 0 := ⟨in_p [.instanceMethod yX3_init, .initialized yX3_init.cls, .code yX3_init cX3_init 1 none] [75, 50, 76] rfl (by decide +kernel), rfl, ⟨by decide +kernel, by decide +kernel, by decide +kernel⟩, in_n _ 74 rfl rfl⟩
set_option maxRecDepth 100000 in
theorem noX4_9 : Nok RX4 9 3 := ⟨RX3, TX3, 6, tyX3, rfl, in_u3, tyX3_ok, in_p [Cond.classLink RX4 9 RX3] [72] rfl (by decide +kernel) _ List.mem_cons_self, in_p [Cond.instantiable RX3 6] [73] rfl (by decide +kernel) _ List.mem_cons_self, in_p [Cond.initialized RX3] [50] rfl (by decide +kernel) _ List.mem_cons_self, by decide, rfl, by decide +kernel⟩
set_option maxRecDepth 100000 in
theorem poX4_12 : Pok RX4 12 4 0 true (.object "SungSlides$Song") true := ⟨RX4, TX4, 3, tyX4, rfl, by decide, in_u4, tyX4_ok, nmX4, in_p [Cond.fieldLink RX4 12 RX4 "song" "LSungSlides$Song;"] [103] (by decide +kernel) (by decide +kernel) _ List.mem_cons_self, rfl, rfl, by decide +kernel, rfl, by decide, fun _ => rfl⟩
set_option maxRecDepth 100000 in
theorem poX4_18 : Pok RX4 18 4 1 true (.array .int) true := ⟨RX4, TX4, 3, tyX4, rfl, by decide, in_u4, tyX4_ok, nmX4, in_p [Cond.fieldLink RX4 18 RX4 "settings" "[I"] [106] (by decide +kernel) (by decide +kernel) _ List.mem_cons_self, rfl, rfl, by decide +kernel, rfl, by decide, fun _ => rfl⟩
set_option maxRecDepth 100000 in
theorem poX4_22 : Pok RX4 22 4 2 true (.array .int) true := ⟨RX4, TX4, 3, tyX4, rfl, by decide, in_u4, tyX4_ok, nmX4, in_p [Cond.fieldLink RX4 22 RX4 "pitches" "[I"] [107] (by decide +kernel) (by decide +kernel) _ List.mem_cons_self, rfl, rfl, by decide +kernel, rfl, by decide, fun _ => rfl⟩
set_option maxRecDepth 100000 in
theorem foX4_18 : Fok RX4 18 4 1 true := ⟨RX4, TX4, 3, rfl, by decide, in_u4, in_p [Cond.fieldLink RX4 18 RX4 "settings" "[I"] [106] (by decide +kernel) (by decide +kernel) _ List.mem_cons_self, rfl, rfl, by decide⟩
set_option maxRecDepth 100000 in
theorem coX4_28 : ∀ w ∈ ([.methodLink RX4 28 arraycopyName, .native arraycopyName, .static arraycopyName, .initialized "java/lang/System"] : List Cond), w ∈ gtb := in_p [.methodLink RX4 28 arraycopyName, .native arraycopyName, .static arraycopyName, .initialized "java/lang/System"] [100, 102, 101, 51] rfl (by decide +kernel)
set_option maxRecDepth 100000 in
theorem gnX4_25 : Cond.fieldLinkNest RX4 25 "SungSlides" (stN 0) "[I" "SungSlides" ∈ nestW := in_n _ 98 rfl rfl
set_option maxRecDepth 100000 in
theorem foX4_22 : Fok RX4 22 4 2 true := ⟨RX4, TX4, 3, rfl, by decide, in_u4, in_p [Cond.fieldLink RX4 22 RX4 "pitches" "[I"] [107] (by decide +kernel) (by decide +kernel) _ List.mem_cons_self, rfl, rfl, by decide⟩
set_option maxRecDepth 100000 in
theorem foX4_12 : Fok RX4 12 4 0 true := ⟨RX4, TX4, 3, rfl, by decide, in_u4, in_p [Cond.fieldLink RX4 12 RX4 "song" "LSungSlides$Song;"] [103] (by decide +kernel) (by decide +kernel) _ List.mem_cons_self, rfl, rfl, by decide⟩
set_option maxRecDepth 100000 in
theorem ckX4_34 : CkV RX4 34 yX3_copyFrom cX3_copyFrom 2 none 1 := ⟨in_p [.methodLink RX4 34 yX3_copyFrom, .instanceMethod yX3_copyFrom, .selects yX3_copyFrom.cls yX3_copyFrom yX3_copyFrom, .initialized yX3_copyFrom.cls, .code yX3_copyFrom cX3_copyFrom 2 none] [274, 275, 276, 50, 277] rfl (by decide +kernel), ⟨by decide +kernel, by decide +kernel, by decide +kernel⟩⟩
set_option maxRecDepth 100000 in
theorem ckX4_38 : CkN RX4 38 "SungSlides" yX6_isWithin cX6_isWithin 3 (some .boolean) 3 := ⟨in_p [.static yX6_isWithin, .initialized yX6_isWithin.cls, .code yX6_isWithin cX6_isWithin 3 (some .boolean)] [239, 48, 240] rfl (by decide +kernel), ⟨by decide +kernel, by decide +kernel, by decide +kernel⟩, in_n _ 380 rfl rfl⟩
set_option maxRecDepth 100000 in
theorem ckX4_42 : CkV RX4 42 yX4_voiceAt cX4_voiceAt 3 none 2 := ⟨in_p [.methodLink RX4 42 yX4_voiceAt, .instanceMethod yX4_voiceAt, .selects yX4_voiceAt.cls yX4_voiceAt yX4_voiceAt, .initialized yX4_voiceAt.cls, .code yX4_voiceAt cX4_voiceAt 3 none] [376, 377, 378, 49, 379] rfl (by decide +kernel), ⟨by decide +kernel, by decide +kernel, by decide +kernel⟩⟩
set_option maxRecDepth 100000 in
theorem ckX4_46 : CkV RX4 46 yX3_beginningOf cX3_beginningOf 2 (some .int) 1 := ⟨in_p [.methodLink RX4 46 yX3_beginningOf, .instanceMethod yX3_beginningOf, .selects yX3_beginningOf.cls yX3_beginningOf yX3_beginningOf, .initialized yX3_beginningOf.cls, .code yX3_beginningOf cX3_beginningOf 2 (some .int)] [503, 250, 251, 50, 252] rfl (by decide +kernel), ⟨by decide +kernel, by decide +kernel, by decide +kernel⟩⟩
set_option maxRecDepth 100000 in
theorem ckX4_50 : CkV RX4 50 yX3_lengthOf cX3_lengthOf 2 (some .int) 1 := ⟨in_p [.methodLink RX4 50 yX3_lengthOf, .instanceMethod yX3_lengthOf, .selects yX3_lengthOf.cls yX3_lengthOf yX3_lengthOf, .initialized yX3_lengthOf.cls, .code yX3_lengthOf cX3_lengthOf 2 (some .int)] [504, 258, 259, 50, 260] rfl (by decide +kernel), ⟨by decide +kernel, by decide +kernel, by decide +kernel⟩⟩
set_option maxRecDepth 100000 in
theorem ckX4_53 : CkV RX4 53 yX3_wantedOf cX3_wantedOf 5 (some .int) 2 := ⟨in_p [.methodLink RX4 53 yX3_wantedOf, .instanceMethod yX3_wantedOf, .selects yX3_wantedOf.cls yX3_wantedOf yX3_wantedOf, .initialized yX3_wantedOf.cls, .code yX3_wantedOf cX3_wantedOf 5 (some .int)] [505, 403, 404, 50, 405] rfl (by decide +kernel), ⟨by decide +kernel, by decide +kernel, by decide +kernel⟩⟩
set_option maxRecDepth 100000 in
theorem ckX4_57 : CkV RX4 57 yX4_sungAt cX4_sungAt 2 (some .int) 1 := ⟨in_p [.methodLink RX4 57 yX4_sungAt, .instanceMethod yX4_sungAt, .selects yX4_sungAt.cls yX4_sungAt yX4_sungAt, .initialized yX4_sungAt.cls, .code yX4_sungAt cX4_sungAt 2 (some .int)] [436, 399, 400, 49, 401] rfl (by decide +kernel), ⟨by decide +kernel, by decide +kernel, by decide +kernel⟩⟩
set_option maxRecDepth 100000 in
theorem ckX4_60 : CkV RX4 60 yX4_isOnset cX4_isOnset 2 (some .boolean) 1 := ⟨in_p [.methodLink RX4 60 yX4_isOnset, .instanceMethod yX4_isOnset, .selects yX4_isOnset.cls yX4_isOnset yX4_isOnset, .initialized yX4_isOnset.cls, .code yX4_isOnset cX4_isOnset 2 (some .boolean)] [432, 433, 434, 49, 435] rfl (by decide +kernel), ⟨by decide +kernel, by decide +kernel, by decide +kernel⟩⟩
set_option maxRecDepth 100000 in
theorem ckX4_64 : CkV RX4 64 yX4_setting cX4_setting 2 (some .int) 1 := ⟨in_p [.methodLink RX4 64 yX4_setting, .instanceMethod yX4_setting, .selects yX4_setting.cls yX4_setting yX4_setting, .initialized yX4_setting.cls, .code yX4_setting cX4_setting 2 (some .int)] [421, 358, 359, 49, 360] rfl (by decide +kernel), ⟨by decide +kernel, by decide +kernel, by decide +kernel⟩⟩
set_option maxRecDepth 100000 in
theorem maX4_67 : ∀ w ∈ ([.methodLink RX4 67 Lib.Math.abs.name, .static Lib.Math.abs.name, .initialized "java/lang/Math", .code Lib.Math.abs.name Lib.Math.abs.code 1 (some .int)] : List Cond), w ∈ gtb := in_p [.methodLink RX4 67 Lib.Math.abs.name, .static Lib.Math.abs.name, .initialized "java/lang/Math", .code Lib.Math.abs.name Lib.Math.abs.code 1 (some .int)] [418, 419, 57, 420] rfl (by decide +kernel)
set_option maxRecDepth 100000 in
theorem maX4_72 : ∀ w ∈ ([.methodLink RX4 72 Lib.Math.min.name, .static Lib.Math.min.name, .initialized "java/lang/Math", .code Lib.Math.min.name Lib.Math.min.code 2 (some .int)] : List Cond), w ∈ gtb := in_p [.methodLink RX4 72 Lib.Math.min.name, .static Lib.Math.min.name, .initialized "java/lang/Math", .code Lib.Math.min.name Lib.Math.min.code 2 (some .int)] [422, 423, 57, 424] rfl (by decide +kernel)
set_option maxRecDepth 100000 in
theorem oiX1_3 : ∀ w ∈ ([.methodLink RX1 3 Lib.objectInit, .instanceMethod Lib.objectInit, .code Lib.objectInit ⟨#[0xb1]⟩ 1 none] : List Cond), w ∈ gtb := in_p [.methodLink RX1 3 Lib.objectInit, .instanceMethod Lib.objectInit, .code Lib.objectInit ⟨#[0xb1]⟩ 1 none] [169, 64, 65] rfl (by decide +kernel)
set_option maxRecDepth 100000 in
theorem poX1_9 : Pok RX1 9 1 0 true (.array .int) true := ⟨RX1, TX1, 12, tyX1, rfl, by decide, in_u1, tyX1_ok, nmX1, in_p [Cond.fieldLink RX1 9 RX1 "matches" "[I"] [170] (by decide +kernel) (by decide +kernel) _ List.mem_cons_self, rfl, rfl, by decide +kernel, rfl, by decide, fun _ => rfl⟩
set_option maxRecDepth 100000 in
theorem poX1_15 : Pok RX1 15 1 1 true (.array .int) true := ⟨RX1, TX1, 12, tyX1, rfl, by decide, in_u1, tyX1_ok, nmX1, in_p [Cond.fieldLink RX1 15 RX1 "shares" "[I"] [171] (by decide +kernel) (by decide +kernel) _ List.mem_cons_self, rfl, rfl, by decide +kernel, rfl, by decide, fun _ => rfl⟩
set_option maxRecDepth 100000 in
theorem poX1_18 : Pok RX1 18 1 2 true (.array .int) true := ⟨RX1, TX1, 12, tyX1, rfl, by decide, in_u1, tyX1_ok, nmX1, in_p [Cond.fieldLink RX1 18 RX1 "heldLines" "[I"] [172] (by decide +kernel) (by decide +kernel) _ List.mem_cons_self, rfl, rfl, by decide +kernel, rfl, by decide, fun _ => rfl⟩
set_option maxRecDepth 100000 in
theorem poX1_21 : Pok RX1 21 1 3 true (.array .int) true := ⟨RX1, TX1, 12, tyX1, rfl, by decide, in_u1, tyX1_ok, nmX1, in_p [Cond.fieldLink RX1 21 RX1 "onsets" "[I"] [173] (by decide +kernel) (by decide +kernel) _ List.mem_cons_self, rfl, rfl, by decide +kernel, rfl, by decide, fun _ => rfl⟩
set_option maxRecDepth 100000 in
theorem poX1_24 : Pok RX1 24 1 4 true (.array .int) true := ⟨RX1, TX1, 12, tyX1, rfl, by decide, in_u1, tyX1_ok, nmX1, in_p [Cond.fieldLink RX1 24 RX1 "reasons" "[I"] [174] (by decide +kernel) (by decide +kernel) _ List.mem_cons_self, rfl, rfl, by decide +kernel, rfl, by decide, fun _ => rfl⟩
set_option maxRecDepth 100000 in
theorem poX1_27 : Pok RX1 27 1 5 true (.array .int) true := ⟨RX1, TX1, 12, tyX1, rfl, by decide, in_u1, tyX1_ok, nmX1, in_p [Cond.fieldLink RX1 27 RX1 "rowsAhead" "[I"] [175] (by decide +kernel) (by decide +kernel) _ List.mem_cons_self, rfl, rfl, by decide +kernel, rfl, by decide, fun _ => rfl⟩
set_option maxRecDepth 100000 in
theorem poX1_30 : Pok RX1 30 1 6 true (.array .int) true := ⟨RX1, TX1, 12, tyX1, rfl, by decide, in_u1, tyX1_ok, nmX1, in_p [Cond.fieldLink RX1 30 RX1 "syllablePoints" "[I"] [176] (by decide +kernel) (by decide +kernel) _ List.mem_cons_self, rfl, rfl, by decide +kernel, rfl, by decide, fun _ => rfl⟩
set_option maxRecDepth 100000 in
theorem poX1_33 : Pok RX1 33 1 7 true (.array .int) true := ⟨RX1, TX1, 12, tyX1, rfl, by decide, in_u1, tyX1_ok, nmX1, in_p [Cond.fieldLink RX1 33 RX1 "phraseHits" "[I"] [177] (by decide +kernel) (by decide +kernel) _ List.mem_cons_self, rfl, rfl, by decide +kernel, rfl, by decide, fun _ => rfl⟩
set_option maxRecDepth 100000 in
theorem poX1_36 : Pok RX1 36 1 8 true (.array .int) true := ⟨RX1, TX1, 12, tyX1, rfl, by decide, in_u1, tyX1_ok, nmX1, in_p [Cond.fieldLink RX1 36 RX1 "phrasePoints" "[I"] [178] (by decide +kernel) (by decide +kernel) _ List.mem_cons_self, rfl, rfl, by decide +kernel, rfl, by decide, fun _ => rfl⟩
set_option maxRecDepth 100000 in
theorem poX1_39 : Pok RX1 39 1 9 true (.array .int) true := ⟨RX1, TX1, 12, tyX1, rfl, by decide, in_u1, tyX1_ok, nmX1, in_p [Cond.fieldLink RX1 39 RX1 "longestRows" "[I"] [179] (by decide +kernel) (by decide +kernel) _ List.mem_cons_self, rfl, rfl, by decide +kernel, rfl, by decide, fun _ => rfl⟩
set_option maxRecDepth 100000 in
theorem poX1_42 : Pok RX1 42 1 10 false .int false := ⟨RX1, TX1, 12, tyX1, rfl, by decide, in_u1, tyX1_ok, nmX1, in_p [Cond.fieldLink RX1 42 RX1 "hits" "I"] [180] (by decide +kernel) (by decide +kernel) _ List.mem_cons_self, rfl, rfl, by decide +kernel, rfl, by decide, fun _ => rfl⟩
set_option maxRecDepth 100000 in
theorem poX1_46 : Pok RX1 46 1 11 false .int false := ⟨RX1, TX1, 12, tyX1, rfl, by decide, in_u1, tyX1_ok, nmX1, in_p [Cond.fieldLink RX1 46 RX1 "points" "I"] [182] (by decide +kernel) (by decide +kernel) _ List.mem_cons_self, rfl, rfl, by decide +kernel, rfl, by decide, fun _ => rfl⟩
set_option maxRecDepth 100000 in
theorem foX1_49 : Fok RX1 49 4 0 true := ⟨RX4, TX4, 3, rfl, by decide, in_u4, in_p [Cond.fieldLink RX1 49 RX4 "song" "LSungSlides$Song;"] [104] (by decide +kernel) (by decide +kernel) _ List.mem_cons_self, rfl, rfl, by decide⟩
set_option maxRecDepth 100000 in
theorem ckX1_55 : CkV RX1 55 yX3_size cX3_size 1 (some .int) 0 := ⟨in_p [.methodLink RX1 55 yX3_size, .instanceMethod yX3_size, .selects yX3_size.cls yX3_size yX3_size, .initialized yX3_size.cls, .code yX3_size cX3_size 1 (some .int)] [389, 296, 297, 50, 298] rfl (by decide +kernel), ⟨by decide +kernel, by decide +kernel, by decide +kernel⟩⟩
set_option maxRecDepth 100000 in
theorem ckX1_61 : CkV RX1 61 yX1_hear cX1_hear 14 none 2 := ⟨in_p [.methodLink RX1 61 yX1_hear, .instanceMethod yX1_hear, .selects yX1_hear.cls yX1_hear yX1_hear, .initialized yX1_hear.cls, .code yX1_hear cX1_hear 14 none] [390, 392, 5, 55, 393] rfl (by decide +kernel), ⟨by decide +kernel, by decide +kernel, by decide +kernel⟩⟩
set_option maxRecDepth 100000 in
theorem ckX1_65 : CkV RX1 65 yX1_score cX1_score 5 none 1 := ⟨in_p [.methodLink RX1 65 yX1_score, .instanceMethod yX1_score, .selects yX1_score.cls yX1_score yX1_score, .initialized yX1_score.cls, .code yX1_score cX1_score 5 none] [456, 458, 7, 55, 459] rfl (by decide +kernel), ⟨by decide +kernel, by decide +kernel, by decide +kernel⟩⟩
set_option maxRecDepth 100000 in
theorem foX1_9 : Fok RX1 9 1 0 true := ⟨RX1, TX1, 12, rfl, by decide, in_u1, in_p [Cond.fieldLink RX1 9 RX1 "matches" "[I"] [170] (by decide +kernel) (by decide +kernel) _ List.mem_cons_self, rfl, rfl, by decide⟩
set_option maxRecDepth 100000 in
theorem ckX1_69 : CkV RX1 69 yX3_lengthOf cX3_lengthOf 2 (some .int) 1 := ⟨in_p [.methodLink RX1 69 yX3_lengthOf, .instanceMethod yX3_lengthOf, .selects yX3_lengthOf.cls yX3_lengthOf yX3_lengthOf, .initialized yX3_lengthOf.cls, .code yX3_lengthOf cX3_lengthOf 2 (some .int)] [395, 258, 259, 50, 260] rfl (by decide +kernel), ⟨by decide +kernel, by decide +kernel, by decide +kernel⟩⟩
set_option maxRecDepth 100000 in
theorem foX1_15 : Fok RX1 15 1 1 true := ⟨RX1, TX1, 12, rfl, by decide, in_u1, in_p [Cond.fieldLink RX1 15 RX1 "shares" "[I"] [171] (by decide +kernel) (by decide +kernel) _ List.mem_cons_self, rfl, rfl, by decide⟩
set_option maxRecDepth 100000 in
theorem foX1_18 : Fok RX1 18 1 2 true := ⟨RX1, TX1, 12, rfl, by decide, in_u1, in_p [Cond.fieldLink RX1 18 RX1 "heldLines" "[I"] [172] (by decide +kernel) (by decide +kernel) _ List.mem_cons_self, rfl, rfl, by decide⟩
set_option maxRecDepth 100000 in
theorem ckX1_73 : CkV RX1 73 yX4_setting cX4_setting 2 (some .int) 1 := ⟨in_p [.methodLink RX1 73 yX4_setting, .instanceMethod yX4_setting, .selects yX4_setting.cls yX4_setting yX4_setting, .initialized yX4_setting.cls, .code yX4_setting cX4_setting 2 (some .int)] [397, 358, 359, 49, 360] rfl (by decide +kernel), ⟨by decide +kernel, by decide +kernel, by decide +kernel⟩⟩
set_option maxRecDepth 100000 in
theorem ckX1_76 : CkV RX1 76 yX3_barLinesOf cX3_barLinesOf 5 (some .int) 2 := ⟨in_p [.methodLink RX1 76 yX3_barLinesOf, .instanceMethod yX3_barLinesOf, .selects yX3_barLinesOf.cls yX3_barLinesOf yX3_barLinesOf, .initialized yX3_barLinesOf.cls, .code yX3_barLinesOf cX3_barLinesOf 5 (some .int)] [634, 557, 558, 50, 559] rfl (by decide +kernel), ⟨by decide +kernel, by decide +kernel, by decide +kernel⟩⟩
set_option maxRecDepth 100000 in
theorem foX1_21 : Fok RX1 21 1 3 true := ⟨RX1, TX1, 12, rfl, by decide, in_u1, in_p [Cond.fieldLink RX1 21 RX1 "onsets" "[I"] [173] (by decide +kernel) (by decide +kernel) _ List.mem_cons_self, rfl, rfl, by decide⟩
set_option maxRecDepth 100000 in
theorem ckX1_80 : CkV RX1 80 yX3_beginningOf cX3_beginningOf 2 (some .int) 1 := ⟨in_p [.methodLink RX1 80 yX3_beginningOf, .instanceMethod yX3_beginningOf, .selects yX3_beginningOf.cls yX3_beginningOf yX3_beginningOf, .initialized yX3_beginningOf.cls, .code yX3_beginningOf cX3_beginningOf 2 (some .int)] [396, 250, 251, 50, 252] rfl (by decide +kernel), ⟨by decide +kernel, by decide +kernel, by decide +kernel⟩⟩
set_option maxRecDepth 100000 in
theorem foX1_24 : Fok RX1 24 1 4 true := ⟨RX1, TX1, 12, rfl, by decide, in_u1, in_p [Cond.fieldLink RX1 24 RX1 "reasons" "[I"] [174] (by decide +kernel) (by decide +kernel) _ List.mem_cons_self, rfl, rfl, by decide⟩
set_option maxRecDepth 100000 in
theorem ckX1_83 : CkN RX1 83 "SungSlides" yX6_isWithin cX6_isWithin 3 (some .boolean) 3 := ⟨in_p [.static yX6_isWithin, .initialized yX6_isWithin.cls, .code yX6_isWithin cX6_isWithin 3 (some .boolean)] [239, 48, 240] rfl (by decide +kernel), ⟨by decide +kernel, by decide +kernel, by decide +kernel⟩, in_n _ 394 rfl rfl⟩
set_option maxRecDepth 100000 in
theorem ckX1_87 : CkV RX1 87 yX4_sungAt cX4_sungAt 2 (some .int) 1 := ⟨in_p [.methodLink RX1 87 yX4_sungAt, .instanceMethod yX4_sungAt, .selects yX4_sungAt.cls yX4_sungAt yX4_sungAt, .initialized yX4_sungAt.cls, .code yX4_sungAt cX4_sungAt 2 (some .int)] [398, 399, 400, 49, 401] rfl (by decide +kernel), ⟨by decide +kernel, by decide +kernel, by decide +kernel⟩⟩
set_option maxRecDepth 100000 in
theorem ckX1_90 : CkV RX1 90 yX3_wantedOf cX3_wantedOf 5 (some .int) 2 := ⟨in_p [.methodLink RX1 90 yX3_wantedOf, .instanceMethod yX3_wantedOf, .selects yX3_wantedOf.cls yX3_wantedOf yX3_wantedOf, .initialized yX3_wantedOf.cls, .code yX3_wantedOf cX3_wantedOf 5 (some .int)] [402, 403, 404, 50, 405] rfl (by decide +kernel), ⟨by decide +kernel, by decide +kernel, by decide +kernel⟩⟩
set_option maxRecDepth 100000 in
theorem ckX1_93 : CkV RX1 93 yX4_isMatch cX4_isMatch 5 (some .boolean) 2 := ⟨in_p [.methodLink RX1 93 yX4_isMatch, .instanceMethod yX4_isMatch, .selects yX4_isMatch.cls yX4_isMatch yX4_isMatch, .initialized yX4_isMatch.cls, .code yX4_isMatch cX4_isMatch 5 (some .boolean)] [414, 415, 416, 49, 417] rfl (by decide +kernel), ⟨by decide +kernel, by decide +kernel, by decide +kernel⟩⟩
set_option maxRecDepth 100000 in
theorem ckX1_97 : CkS RX1 97 yX1_isBarLine cX1_isBarLine 2 (some .boolean) 2 := ⟨in_p [.methodLink RX1 97 yX1_isBarLine, .static yX1_isBarLine, .initialized RX1, .code yX1_isBarLine cX1_isBarLine 2 (some .boolean)] [425, 426, 55, 427] rfl (by decide +kernel), rfl, ⟨by decide +kernel, by decide +kernel, by decide +kernel⟩⟩
set_option maxRecDepth 100000 in
theorem ckX1_100 : CkV RX1 100 yX4_onsetNear cX4_onsetNear 4 (some .int) 1 := ⟨in_p [.methodLink RX1 100 yX4_onsetNear, .instanceMethod yX4_onsetNear, .selects yX4_onsetNear.cls yX4_onsetNear yX4_onsetNear, .initialized yX4_onsetNear.cls, .code yX4_onsetNear cX4_onsetNear 4 (some .int)] [428, 429, 430, 49, 431] rfl (by decide +kernel), ⟨by decide +kernel, by decide +kernel, by decide +kernel⟩⟩
set_option maxRecDepth 100000 in
theorem ckX1_103 : CkV RX1 103 yX1_reasonFor cX1_reasonFor 4 (some .int) 3 := ⟨in_p [.methodLink RX1 103 yX1_reasonFor, .instanceMethod yX1_reasonFor, .selects yX1_reasonFor.cls yX1_reasonFor yX1_reasonFor, .initialized yX1_reasonFor.cls, .code yX1_reasonFor cX1_reasonFor 4 (some .int)] [437, 439, 6, 55, 440] rfl (by decide +kernel), ⟨by decide +kernel, by decide +kernel, by decide +kernel⟩⟩
set_option maxRecDepth 100000 in
theorem ckX1_107 : CkV RX1 107 yX1_matchesOf cX1_matchesOf 2 (some .int) 1 := ⟨in_p [.methodLink RX1 107 yX1_matchesOf, .instanceMethod yX1_matchesOf, .selects yX1_matchesOf.cls yX1_matchesOf yX1_matchesOf, .initialized yX1_matchesOf.cls, .code yX1_matchesOf cX1_matchesOf 2 (some .int)] [441, 442, 443, 55, 444] rfl (by decide +kernel), ⟨by decide +kernel, by decide +kernel, by decide +kernel⟩⟩
set_option maxRecDepth 100000 in
theorem ckX1_110 : CkV RX1 110 yX1_onsetOf cX1_onsetOf 2 (some .int) 1 := ⟨in_p [.methodLink RX1 110 yX1_onsetOf, .instanceMethod yX1_onsetOf, .selects yX1_onsetOf.cls yX1_onsetOf yX1_onsetOf, .initialized yX1_onsetOf.cls, .code yX1_onsetOf cX1_onsetOf 2 (some .int)] [448, 449, 450, 55, 451] rfl (by decide +kernel), ⟨by decide +kernel, by decide +kernel, by decide +kernel⟩⟩
set_option maxRecDepth 100000 in
theorem ckX1_113 : CkV RX1 113 yX1_shareOf cX1_shareOf 2 (some .int) 1 := ⟨in_p [.methodLink RX1 113 yX1_shareOf, .instanceMethod yX1_shareOf, .selects yX1_shareOf.cls yX1_shareOf yX1_shareOf, .initialized yX1_shareOf.cls, .code yX1_shareOf cX1_shareOf 2 (some .int)] [452, 453, 454, 55, 455] rfl (by decide +kernel), ⟨by decide +kernel, by decide +kernel, by decide +kernel⟩⟩
set_option maxRecDepth 100000 in
theorem ckX1_116 : CkV RX1 116 yX3_phraseOf cX3_phraseOf 2 (some .int) 1 := ⟨in_p [.methodLink RX1 116 yX3_phraseOf, .instanceMethod yX3_phraseOf, .selects yX3_phraseOf.cls yX3_phraseOf yX3_phraseOf, .initialized yX3_phraseOf.cls, .code yX3_phraseOf cX3_phraseOf 2 (some .int)] [460, 288, 289, 50, 290] rfl (by decide +kernel), ⟨by decide +kernel, by decide +kernel, by decide +kernel⟩⟩
set_option maxRecDepth 100000 in
theorem ckX1_119 : CkV RX1 119 yX3_beginsPhrase cX3_beginsPhrase 2 (some .boolean) 1 := ⟨in_p [.methodLink RX1 119 yX3_beginsPhrase, .instanceMethod yX3_beginsPhrase, .selects yX3_beginsPhrase.cls yX3_beginsPhrase yX3_beginsPhrase, .initialized yX3_beginsPhrase.cls, .code yX3_beginsPhrase cX3_beginsPhrase 2 (some .boolean)] [461, 462, 463, 50, 464] rfl (by decide +kernel), ⟨by decide +kernel, by decide +kernel, by decide +kernel⟩⟩
set_option maxRecDepth 100000 in
theorem ckX1_123 : CkV RX1 123 yX1_beginPhrase cX1_beginPhrase 2 none 1 := ⟨in_p [.methodLink RX1 123 yX1_beginPhrase, .instanceMethod yX1_beginPhrase, .selects yX1_beginPhrase.cls yX1_beginPhrase yX1_beginPhrase, .initialized yX1_beginPhrase.cls, .code yX1_beginPhrase cX1_beginPhrase 2 none] [465, 467, 8, 55, 468] rfl (by decide +kernel), ⟨by decide +kernel, by decide +kernel, by decide +kernel⟩⟩
set_option maxRecDepth 100000 in
theorem foX1_27 : Fok RX1 27 1 5 true := ⟨RX1, TX1, 12, rfl, by decide, in_u1, in_p [Cond.fieldLink RX1 27 RX1 "rowsAhead" "[I"] [175] (by decide +kernel) (by decide +kernel) _ List.mem_cons_self, rfl, rfl, by decide⟩
set_option maxRecDepth 100000 in
theorem maX1_127 : ∀ w ∈ ([.methodLink RX1 127 Lib.Math.min.name, .static Lib.Math.min.name, .initialized "java/lang/Math", .code Lib.Math.min.name Lib.Math.min.code 2 (some .int)] : List Cond), w ∈ gtb := in_p [.methodLink RX1 127 Lib.Math.min.name, .static Lib.Math.min.name, .initialized "java/lang/Math", .code Lib.Math.min.name Lib.Math.min.code 2 (some .int)] [469, 423, 57, 424] rfl (by decide +kernel)
set_option maxRecDepth 100000 in
theorem foX1_30 : Fok RX1 30 1 6 true := ⟨RX1, TX1, 12, rfl, by decide, in_u1, in_p [Cond.fieldLink RX1 30 RX1 "syllablePoints" "[I"] [176] (by decide +kernel) (by decide +kernel) _ List.mem_cons_self, rfl, rfl, by decide⟩
set_option maxRecDepth 100000 in
theorem ckX1_132 : CkV RX1 132 yX1_scoreOf cX1_scoreOf 5 (some .int) 2 := ⟨in_p [.methodLink RX1 132 yX1_scoreOf, .instanceMethod yX1_scoreOf, .selects yX1_scoreOf.cls yX1_scoreOf yX1_scoreOf, .initialized yX1_scoreOf.cls, .code yX1_scoreOf cX1_scoreOf 5 (some .int)] [470, 472, 9, 55, 473] rfl (by decide +kernel), ⟨by decide +kernel, by decide +kernel, by decide +kernel⟩⟩
set_option maxRecDepth 100000 in
theorem foX1_36 : Fok RX1 36 1 8 true := ⟨RX1, TX1, 12, rfl, by decide, in_u1, in_p [Cond.fieldLink RX1 36 RX1 "phrasePoints" "[I"] [178] (by decide +kernel) (by decide +kernel) _ List.mem_cons_self, rfl, rfl, by decide⟩
set_option maxRecDepth 100000 in
theorem foX1_33 : Fok RX1 33 1 7 true := ⟨RX1, TX1, 12, rfl, by decide, in_u1, in_p [Cond.fieldLink RX1 33 RX1 "phraseHits" "[I"] [177] (by decide +kernel) (by decide +kernel) _ List.mem_cons_self, rfl, rfl, by decide⟩
set_option maxRecDepth 100000 in
theorem foX1_39 : Fok RX1 39 1 9 true := ⟨RX1, TX1, 12, rfl, by decide, in_u1, in_p [Cond.fieldLink RX1 39 RX1 "longestRows" "[I"] [179] (by decide +kernel) (by decide +kernel) _ List.mem_cons_self, rfl, rfl, by decide⟩
set_option maxRecDepth 100000 in
theorem maX1_136 : ∀ w ∈ ([.methodLink RX1 136 Lib.Math.max.name, .static Lib.Math.max.name, .initialized "java/lang/Math", .code Lib.Math.max.name Lib.Math.max.code 2 (some .int)] : List Cond), w ∈ gtb := in_p [.methodLink RX1 136 Lib.Math.max.name, .static Lib.Math.max.name, .initialized "java/lang/Math", .code Lib.Math.max.name Lib.Math.max.code 2 (some .int)] [475, 476, 57, 477] rfl (by decide +kernel)
set_option maxRecDepth 100000 in
theorem ckX1_139 : CkV RX1 139 yX3_phraseCount cX3_phraseCount 1 (some .int) 0 := ⟨in_p [.methodLink RX1 139 yX3_phraseCount, .instanceMethod yX3_phraseCount, .selects yX3_phraseCount.cls yX3_phraseCount yX3_phraseCount, .initialized yX3_phraseCount.cls, .code yX3_phraseCount cX3_phraseCount 1 (some .int)] [478, 284, 285, 50, 286] rfl (by decide +kernel), ⟨by decide +kernel, by decide +kernel, by decide +kernel⟩⟩
set_option maxRecDepth 100000 in
theorem ckX1_142 : CkV RX1 142 yX3_sizeOfPhrase cX3_sizeOfPhrase 4 (some .int) 1 := ⟨in_p [.methodLink RX1 142 yX3_sizeOfPhrase, .instanceMethod yX3_sizeOfPhrase, .selects yX3_sizeOfPhrase.cls yX3_sizeOfPhrase yX3_sizeOfPhrase, .initialized yX3_sizeOfPhrase.cls, .code yX3_sizeOfPhrase cX3_sizeOfPhrase 4 (some .int)] [479, 480, 481, 50, 482] rfl (by decide +kernel), ⟨by decide +kernel, by decide +kernel, by decide +kernel⟩⟩
set_option maxRecDepth 100000 in
theorem ckX1_145 : CkS RX1 145 yX1_extraOf cX1_extraOf 2 (some .int) 2 := ⟨in_p [.methodLink RX1 145 yX1_extraOf, .static yX1_extraOf, .initialized RX1, .code yX1_extraOf cX1_extraOf 2 (some .int)] [483, 484, 55, 485] rfl (by decide +kernel), rfl, ⟨by decide +kernel, by decide +kernel, by decide +kernel⟩⟩
set_option maxRecDepth 100000 in
theorem foX1_42 : Fok RX1 42 1 10 false := ⟨RX1, TX1, 12, rfl, by decide, in_u1, in_p [Cond.fieldLink RX1 42 RX1 "hits" "I"] [180] (by decide +kernel) (by decide +kernel) _ List.mem_cons_self, rfl, rfl, by decide⟩
set_option maxRecDepth 100000 in
theorem foX1_46 : Fok RX1 46 1 11 false := ⟨RX1, TX1, 12, rfl, by decide, in_u1, in_p [Cond.fieldLink RX1 46 RX1 "points" "I"] [182] (by decide +kernel) (by decide +kernel) _ List.mem_cons_self, rfl, rfl, by decide⟩
set_option maxRecDepth 100000 in
theorem maX1_148 : ∀ w ∈ ([.methodLink RX1 148 Lib.Math.abs.name, .static Lib.Math.abs.name, .initialized "java/lang/Math", .code Lib.Math.abs.name Lib.Math.abs.code 1 (some .int)] : List Cond), w ∈ gtb := in_p [.methodLink RX1 148 Lib.Math.abs.name, .static Lib.Math.abs.name, .initialized "java/lang/Math", .code Lib.Math.abs.name Lib.Math.abs.code 1 (some .int)] [474, 419, 57, 420] rfl (by decide +kernel)
set_option maxRecDepth 100000 in
theorem ckX1_151 : CkS RX1 151 yX1_valueIn cX1_valueIn 2 (some .int) 2 := ⟨in_p [.methodLink RX1 151 yX1_valueIn, .static yX1_valueIn, .initialized RX1, .code yX1_valueIn cX1_valueIn 2 (some .int)] [445, 446, 55, 447] rfl (by decide +kernel), rfl, ⟨by decide +kernel, by decide +kernel, by decide +kernel⟩⟩
set_option maxRecDepth 100000 in
theorem oiX0_3 : ∀ w ∈ ([.methodLink RX0 3 Lib.objectInit, .instanceMethod Lib.objectInit, .code Lib.objectInit ⟨#[0xb1]⟩ 1 none] : List Cond), w ∈ gtb := in_p [.methodLink RX0 3 Lib.objectInit, .instanceMethod Lib.objectInit, .code Lib.objectInit ⟨#[0xb1]⟩ 1 none] [120, 64, 65] rfl (by decide +kernel)
set_option maxRecDepth 100000 in
theorem clX0_9 : Cond.classLink RX0 9 "SungSlides$State" ∈ gtb := in_p [Cond.classLink RX0 9 "SungSlides$State"] [121] rfl (by decide +kernel) _ List.mem_cons_self
set_option maxRecDepth 100000 in
theorem poX0_11 : Pok RX0 11 0 0 true (.array (.object "SungSlides$State")) true := ⟨RX0, TX0, 2, tyX0, rfl, by decide, in_u0, tyX0_ok, nmX0, in_p [Cond.fieldLink RX0 11 RX0 "states" "[LSungSlides$State;"] [124] (by decide +kernel) (by decide +kernel) _ List.mem_cons_self, rfl, rfl, by decide +kernel, rfl, by decide, fun _ => rfl⟩
set_option maxRecDepth 100000 in
theorem poX0_17 : Pok RX0 17 0 1 false .int false := ⟨RX0, TX0, 2, tyX0, rfl, by decide, in_u0, tyX0_ok, nmX0, in_p [Cond.fieldLink RX0 17 RX0 "count" "I"] [125] (by decide +kernel) (by decide +kernel) _ List.mem_cons_self, rfl, rfl, by decide +kernel, rfl, by decide, fun _ => rfl⟩
set_option maxRecDepth 100000 in
theorem foX0_11 : Fok RX0 11 0 0 true := ⟨RX0, TX0, 2, rfl, by decide, in_u0, in_p [Cond.fieldLink RX0 11 RX0 "states" "[LSungSlides$State;"] [124] (by decide +kernel) (by decide +kernel) _ List.mem_cons_self, rfl, rfl, by decide⟩
set_option maxRecDepth 100000 in
theorem ckX0_21 : CkI RX0 21 yX4_init cX4_init 2 0 := ⟨in_p [.methodLink RX0 21 yX4_init, .instanceMethod yX4_init, .initialized yX4_init.cls, .code yX4_init cX4_init 2 none] [123, 69, 49, 70] rfl (by decide +kernel), rfl, ⟨by decide +kernel, by decide +kernel, by decide +kernel⟩⟩
set_option maxRecDepth 100000 in
theorem noX0_9 : Nok RX0 9 4 := ⟨RX4, TX4, 3, tyX4, rfl, in_u4, tyX4_ok, in_p [Cond.classLink RX0 9 RX4] [121] rfl (by decide +kernel) _ List.mem_cons_self, in_p [Cond.instantiable RX4 3] [67] rfl (by decide +kernel) _ List.mem_cons_self, in_p [Cond.initialized RX4] [49] rfl (by decide +kernel) _ List.mem_cons_self, by decide, rfl, by decide +kernel⟩
set_option maxRecDepth 100000 in
theorem foX0_17 : Fok RX0 17 0 1 false := ⟨RX0, TX0, 2, rfl, by decide, in_u0, in_p [Cond.fieldLink RX0 17 RX0 "count" "I"] [125] (by decide +kernel) (by decide +kernel) _ List.mem_cons_self, rfl, rfl, by decide⟩
set_option maxRecDepth 100000 in
theorem ckX0_22 : CkV RX0 22 yX0_dropOldest cX0_dropOldest 3 none 0 := ⟨in_p [.methodLink RX0 22 yX0_dropOldest, .instanceMethod yX0_dropOldest, .selects yX0_dropOldest.cls yX0_dropOldest yX0_dropOldest, .initialized yX0_dropOldest.cls, .code yX0_dropOldest cX0_dropOldest 3 none] [265, 267, 0, 52, 268] rfl (by decide +kernel), ⟨by decide +kernel, by decide +kernel, by decide +kernel⟩⟩
set_option maxRecDepth 100000 in
theorem ckX0_25 : CkN RX0 25 "SungSlides" yX6_isWithin cX6_isWithin 3 (some .boolean) 3 := ⟨in_p [.static yX6_isWithin, .initialized yX6_isWithin.cls, .code yX6_isWithin cX6_isWithin 3 (some .boolean)] [239, 48, 240] rfl (by decide +kernel), ⟨by decide +kernel, by decide +kernel, by decide +kernel⟩, in_n _ 269 rfl rfl⟩
set_option maxRecDepth 100000 in
theorem ckX0_29 : CkV RX0 29 yX4_copyFrom cX4_copyFrom 2 none 1 := ⟨in_p [.methodLink RX0 29 yX4_copyFrom, .instanceMethod yX4_copyFrom, .selects yX4_copyFrom.cls yX4_copyFrom yX4_copyFrom, .initialized yX4_copyFrom.cls, .code yX4_copyFrom cX4_copyFrom 2 none] [270, 271, 272, 49, 273] rfl (by decide +kernel), ⟨by decide +kernel, by decide +kernel, by decide +kernel⟩⟩
set_option maxRecDepth 100000 in
theorem oiX5_3 : ∀ w ∈ ([.methodLink RX5 3 Lib.objectInit, .instanceMethod Lib.objectInit, .code Lib.objectInit ⟨#[0xb1]⟩ 1 none] : List Cond), w ∈ gtb := in_p [.methodLink RX5 3 Lib.objectInit, .instanceMethod Lib.objectInit, .code Lib.objectInit ⟨#[0xb1]⟩ 1 none] [136, 64, 65] rfl (by decide +kernel)
set_option maxRecDepth 100000 in
theorem ac_char : Cond.arrayClass .char ∈ gtb := in_p [Cond.arrayClass .char] [144] rfl (by decide +kernel) _ List.mem_cons_self
set_option maxRecDepth 100000 in
theorem poX5_9 : Pok RX5 9 5 0 true (.array .char) true := ⟨RX5, TX5, 2, tyX5, rfl, by decide, in_u5, tyX5_ok, nmX5, in_p [Cond.fieldLink RX5 9 RX5 "characters" "[C"] [137] (by decide +kernel) (by decide +kernel) _ List.mem_cons_self, rfl, rfl, by decide +kernel, rfl, by decide, fun _ => rfl⟩
set_option maxRecDepth 100000 in
theorem poX5_15 : Pok RX5 15 5 1 false .int false := ⟨RX5, TX5, 2, tyX5, rfl, by decide, in_u5, tyX5_ok, nmX5, in_p [Cond.fieldLink RX5 15 RX5 "count" "I"] [138] (by decide +kernel) (by decide +kernel) _ List.mem_cons_self, rfl, rfl, by decide +kernel, rfl, by decide, fun _ => rfl⟩
set_option maxRecDepth 100000 in
theorem foX5_15 : Fok RX5 15 5 1 false := ⟨RX5, TX5, 2, rfl, by decide, in_u5, in_p [Cond.fieldLink RX5 15 RX5 "count" "I"] [138] (by decide +kernel) (by decide +kernel) _ List.mem_cons_self, rfl, rfl, by decide⟩
set_option maxRecDepth 100000 in
theorem ckX5_19 : CkN RX5 19 "SungSlides" yX6_isWithin cX6_isWithin 3 (some .boolean) 3 := ⟨in_p [.static yX6_isWithin, .initialized yX6_isWithin.cls, .code yX6_isWithin cX6_isWithin 3 (some .boolean)] [239, 48, 240] rfl (by decide +kernel), ⟨by decide +kernel, by decide +kernel, by decide +kernel⟩, in_n _ 327 rfl rfl⟩
set_option maxRecDepth 100000 in
theorem foX5_9 : Fok RX5 9 5 0 true := ⟨RX5, TX5, 2, rfl, by decide, in_u5, in_p [Cond.fieldLink RX5 9 RX5 "characters" "[C"] [137] (by decide +kernel) (by decide +kernel) _ List.mem_cons_self, rfl, rfl, by decide⟩
set_option maxRecDepth 100000 in
theorem oiX2_3 : ∀ w ∈ ([.methodLink RX2 3 Lib.objectInit, .instanceMethod Lib.objectInit, .code Lib.objectInit ⟨#[0xb1]⟩ 1 none] : List Cond), w ∈ gtb := in_p [.methodLink RX2 3 Lib.objectInit, .instanceMethod Lib.objectInit, .code Lib.objectInit ⟨#[0xb1]⟩ 1 none] [150, 64, 65] rfl (by decide +kernel)
set_option maxRecDepth 100000 in
theorem poX2_9 : Pok RX2 9 2 0 false .int false := ⟨RX2, TX2, 3, tyX2, rfl, by decide, in_u2, tyX2_ok, nmX2, in_p [Cond.fieldLink RX2 9 RX2 "place" "I"] [151] (by decide +kernel) (by decide +kernel) _ List.mem_cons_self, rfl, rfl, by decide +kernel, rfl, by decide, fun _ => rfl⟩
set_option maxRecDepth 100000 in
theorem poX2_15 : Pok RX2 15 2 1 false .boolean false := ⟨RX2, TX2, 3, tyX2, rfl, by decide, in_u2, tyX2_ok, nmX2, in_p [Cond.fieldLink RX2 15 RX2 "hasFault" "Z"] [153] (by decide +kernel) (by decide +kernel) _ List.mem_cons_self, rfl, rfl, by decide +kernel, rfl, by decide, fun _ => rfl⟩
set_option maxRecDepth 100000 in
theorem poX2_19 : Pok RX2 19 2 2 false .boolean false := ⟨RX2, TX2, 3, tyX2, rfl, by decide, in_u2, tyX2_ok, nmX2, in_p [Cond.fieldLink RX2 19 RX2 "isTooLong" "Z"] [155] (by decide +kernel) (by decide +kernel) _ List.mem_cons_self, rfl, rfl, by decide +kernel, rfl, by decide, fun _ => rfl⟩
set_option maxRecDepth 100000 in
theorem ckX2_22 : CkV RX2 22 yX3_clear cX3_clear 1 none 0 := ⟨in_p [.methodLink RX2 22 yX3_clear, .instanceMethod yX3_clear, .selects yX3_clear.cls yX3_clear yX3_clear, .initialized yX3_clear.cls, .code yX3_clear cX3_clear 1 none] [311, 312, 313, 50, 314] rfl (by decide +kernel), ⟨by decide +kernel, by decide +kernel, by decide +kernel⟩⟩
set_option maxRecDepth 100000 in
theorem ckX2_27 : CkV RX2 27 yX2_readSyllable cX2_readSyllable 8 (some .boolean) 3 := ⟨in_p [.methodLink RX2 27 yX2_readSyllable, .instanceMethod yX2_readSyllable, .selects yX2_readSyllable.cls yX2_readSyllable yX2_readSyllable, .initialized yX2_readSyllable.cls, .code yX2_readSyllable cX2_readSyllable 8 (some .boolean)] [315, 317, 1, 54, 318] rfl (by decide +kernel), ⟨by decide +kernel, by decide +kernel, by decide +kernel⟩⟩
set_option maxRecDepth 100000 in
theorem foX2_15 : Fok RX2 15 2 1 false := ⟨RX2, TX2, 3, rfl, by decide, in_u2, in_p [Cond.fieldLink RX2 15 RX2 "hasFault" "Z"] [153] (by decide +kernel) (by decide +kernel) _ List.mem_cons_self, rfl, rfl, by decide⟩
set_option maxRecDepth 100000 in
theorem foX2_9 : Fok RX2 9 2 0 false := ⟨RX2, TX2, 3, rfl, by decide, in_u2, in_p [Cond.fieldLink RX2 9 RX2 "place" "I"] [151] (by decide +kernel) (by decide +kernel) _ List.mem_cons_self, rfl, rfl, by decide⟩
set_option maxRecDepth 100000 in
theorem ckX2_31 : CkV RX2 31 yX5_size cX5_size 1 (some .int) 0 := ⟨in_p [.methodLink RX2 31 yX5_size, .instanceMethod yX5_size, .selects yX5_size.cls yX5_size yX5_size, .initialized yX5_size.cls, .code yX5_size cX5_size 1 (some .int)] [338, 339, 340, 53, 341] rfl (by decide +kernel), ⟨by decide +kernel, by decide +kernel, by decide +kernel⟩⟩
set_option maxRecDepth 100000 in
theorem ckX2_37 : CkV RX2 37 yX5_hasAt cX5_hasAt 3 (some .boolean) 2 := ⟨in_p [.methodLink RX2 37 yX5_hasAt, .instanceMethod yX5_hasAt, .selects yX5_hasAt.cls yX5_hasAt yX5_hasAt, .initialized yX5_hasAt.cls, .code yX5_hasAt cX5_hasAt 3 (some .boolean)] [323, 324, 325, 53, 326] rfl (by decide +kernel), ⟨by decide +kernel, by decide +kernel, by decide +kernel⟩⟩
set_option maxRecDepth 100000 in
theorem ckX2_41 : CkV RX2 41 yX2_skip cX2_skip 3 (some .boolean) 2 := ⟨in_p [.methodLink RX2 41 yX2_skip, .instanceMethod yX2_skip, .selects yX2_skip.cls yX2_skip yX2_skip, .initialized yX2_skip.cls, .code yX2_skip cX2_skip 3 (some .boolean)] [319, 321, 2, 54, 322] rfl (by decide +kernel), ⟨by decide +kernel, by decide +kernel, by decide +kernel⟩⟩
set_option maxRecDepth 100000 in
theorem ckX2_45 : CkV RX2 45 yX2_readNumber cX2_readNumber 6 (some .int) 3 := ⟨in_p [.methodLink RX2 45 yX2_readNumber, .instanceMethod yX2_readNumber, .selects yX2_readNumber.cls yX2_readNumber yX2_readNumber, .initialized yX2_readNumber.cls, .code yX2_readNumber cX2_readNumber 6 (some .int)] [328, 330, 3, 54, 331] rfl (by decide +kernel), ⟨by decide +kernel, by decide +kernel, by decide +kernel⟩⟩
set_option maxRecDepth 100000 in
theorem ckX2_49 : CkV RX2 49 yX3_hasRoomFor cX3_hasRoomFor 3 (some .boolean) 2 := ⟨in_p [.methodLink RX2 49 yX3_hasRoomFor, .instanceMethod yX3_hasRoomFor, .selects yX3_hasRoomFor.cls yX3_hasRoomFor yX3_hasRoomFor, .initialized yX3_hasRoomFor.cls, .code yX3_hasRoomFor cX3_hasRoomFor 3 (some .boolean)] [336, 242, 243, 50, 244] rfl (by decide +kernel), ⟨by decide +kernel, by decide +kernel, by decide +kernel⟩⟩
set_option maxRecDepth 100000 in
theorem ckX2_53 : CkV RX2 53 yX3_append cX3_append 8 (some .int) 5 := ⟨in_p [.methodLink RX2 53 yX3_append, .instanceMethod yX3_append, .selects yX3_append.cls yX3_append yX3_append, .initialized yX3_append.cls, .code yX3_append cX3_append 8 (some .int)] [337, 280, 281, 50, 282] rfl (by decide +kernel), ⟨by decide +kernel, by decide +kernel, by decide +kernel⟩⟩
set_option maxRecDepth 100000 in
theorem ckX2_57 : CkV RX2 57 yX5_digitAt cX5_digitAt 3 (some .int) 1 := ⟨in_p [.methodLink RX2 57 yX5_digitAt, .instanceMethod yX5_digitAt, .selects yX5_digitAt.cls yX5_digitAt yX5_digitAt, .initialized yX5_digitAt.cls, .code yX5_digitAt cX5_digitAt 3 (some .int)] [332, 333, 334, 53, 335] rfl (by decide +kernel), ⟨by decide +kernel, by decide +kernel, by decide +kernel⟩⟩
set_option maxRecDepth 100000 in
theorem oiX7_1 : ∀ w ∈ ([.methodLink RX7 1 Lib.objectInit, .instanceMethod Lib.objectInit, .code Lib.objectInit ⟨#[0xb1]⟩ 1 none] : List Cond), w ∈ gtb := in_p [.methodLink RX7 1 Lib.objectInit, .instanceMethod Lib.objectInit, .code Lib.objectInit ⟨#[0xb1]⟩ 1 none] [665, 64, 65] rfl (by decide +kernel)
set_option maxRecDepth 100000 in
theorem poX7_7 : Pok RX7 7 7 0 true (.array .int) true := ⟨RX7, TX7, 16, tyX7, rfl, by decide, in_u7, tyX7_ok, nmX7, in_p [Cond.fieldLink RX7 7 RX7 "s" "[I"] [666] (by decide +kernel) (by decide +kernel) _ List.mem_cons_self, rfl, rfl, by decide +kernel, rfl, by decide, fun _ => rfl⟩
set_option maxRecDepth 100000 in
theorem poX7_13 : Pok RX7 13 7 1 true (.array .int) true := ⟨RX7, TX7, 16, tyX7, rfl, by decide, in_u7, tyX7_ok, nmX7, in_p [Cond.fieldLink RX7 13 RX7 "history" "[I"] [667] (by decide +kernel) (by decide +kernel) _ List.mem_cons_self, rfl, rfl, by decide +kernel, rfl, by decide, fun _ => rfl⟩
set_option maxRecDepth 100000 in
theorem poX7_16 : Pok RX7 16 7 3 true (.array .int) true := ⟨RX7, TX7, 16, tyX7, rfl, by decide, in_u7, tyX7_ok, nmX7, in_p [Cond.fieldLink RX7 16 RX7 "snapshot" "[I"] [669] (by decide +kernel) (by decide +kernel) _ List.mem_cons_self, rfl, rfl, by decide +kernel, rfl, by decide, fun _ => rfl⟩
set_option maxRecDepth 100000 in
theorem poX7_19 : Pok RX7 19 7 5 true (.array .char) true := ⟨RX7, TX7, 16, tyX7, rfl, by decide, in_u7, tyX7_ok, nmX7, in_p [Cond.fieldLink RX7 19 RX7 "text" "[C"] [671] (by decide +kernel) (by decide +kernel) _ List.mem_cons_self, rfl, rfl, by decide +kernel, rfl, by decide, fun _ => rfl⟩
set_option maxRecDepth 100000 in
theorem poX7_23 : Pok RX7 23 7 7 true (.array .int) true := ⟨RX7, TX7, 16, tyX7, rfl, by decide, in_u7, tyX7_ok, nmX7, in_p [Cond.fieldLink RX7 23 RX7 "heard" "[I"] [673] (by decide +kernel) (by decide +kernel) _ List.mem_cons_self, rfl, rfl, by decide +kernel, rfl, by decide, fun _ => rfl⟩
set_option maxRecDepth 100000 in
theorem poX7_26 : Pok RX7 26 7 8 true (.array .int) true := ⟨RX7, TX7, 16, tyX7, rfl, by decide, in_u7, tyX7_ok, nmX7, in_p [Cond.fieldLink RX7 26 RX7 "matching" "[I"] [674] (by decide +kernel) (by decide +kernel) _ List.mem_cons_self, rfl, rfl, by decide +kernel, rfl, by decide, fun _ => rfl⟩
set_option maxRecDepth 100000 in
theorem poX7_29 : Pok RX7 29 7 9 true (.array .int) true := ⟨RX7, TX7, 16, tyX7, rfl, by decide, in_u7, tyX7_ok, nmX7, in_p [Cond.fieldLink RX7 29 RX7 "onset" "[I"] [675] (by decide +kernel) (by decide +kernel) _ List.mem_cons_self, rfl, rfl, by decide +kernel, rfl, by decide, fun _ => rfl⟩
set_option maxRecDepth 100000 in
theorem poX7_32 : Pok RX7 32 7 10 true (.array .int) true := ⟨RX7, TX7, 16, tyX7, rfl, by decide, in_u7, tyX7_ok, nmX7, in_p [Cond.fieldLink RX7 32 RX7 "why" "[I"] [676] (by decide +kernel) (by decide +kernel) _ List.mem_cons_self, rfl, rfl, by decide +kernel, rfl, by decide, fun _ => rfl⟩
set_option maxRecDepth 100000 in
theorem poX7_35 : Pok RX7 35 7 11 true (.array .int) true := ⟨RX7, TX7, 16, tyX7, rfl, by decide, in_u7, tyX7_ok, nmX7, in_p [Cond.fieldLink RX7 35 RX7 "row" "[I"] [677] (by decide +kernel) (by decide +kernel) _ List.mem_cons_self, rfl, rfl, by decide +kernel, rfl, by decide, fun _ => rfl⟩
set_option maxRecDepth 100000 in
theorem poX7_38 : Pok RX7 38 7 12 true (.array .int) true := ⟨RX7, TX7, 16, tyX7, rfl, by decide, in_u7, tyX7_ok, nmX7, in_p [Cond.fieldLink RX7 38 RX7 "points" "[I"] [678] (by decide +kernel) (by decide +kernel) _ List.mem_cons_self, rfl, rfl, by decide +kernel, rfl, by decide, fun _ => rfl⟩
set_option maxRecDepth 100000 in
theorem poX7_41 : Pok RX7 41 7 14 true (.array .int) true := ⟨RX7, TX7, 16, tyX7, rfl, by decide, in_u7, tyX7_ok, nmX7, in_p [Cond.fieldLink RX7 41 RX7 "told" "[I"] [680] (by decide +kernel) (by decide +kernel) _ List.mem_cons_self, rfl, rfl, by decide +kernel, rfl, by decide, fun _ => rfl⟩
set_option maxRecDepth 100000 in
theorem foX7_7 : Fok RX7 7 7 0 true := ⟨RX7, TX7, 16, rfl, by decide, in_u7, in_p [Cond.fieldLink RX7 7 RX7 "s" "[I"] [666] (by decide +kernel) (by decide +kernel) _ List.mem_cons_self, rfl, rfl, by decide⟩
set_option maxRecDepth 100000 in
theorem ckX7_44 : CkS RX7 44 yX7_in cX7_in 3 (some .boolean) 3 := ⟨in_p [.methodLink RX7 44 yX7_in, .static yX7_in, .initialized RX7, .code yX7_in cX7_in 3 (some .boolean)] [722, 723, 56, 724] rfl (by decide +kernel), rfl, ⟨by decide +kernel, by decide +kernel, by decide +kernel⟩⟩
set_option maxRecDepth 100000 in
theorem foX7_48 : Fok RX7 48 7 2 false := ⟨RX7, TX7, 16, rfl, by decide, in_u7, in_p [Cond.fieldLink RX7 48 RX7 "kept" "I"] [668] (by decide +kernel) (by decide +kernel) _ List.mem_cons_self, rfl, rfl, by decide⟩
set_option maxRecDepth 100000 in
theorem foX7_13 : Fok RX7 13 7 1 true := ⟨RX7, TX7, 16, rfl, by decide, in_u7, in_p [Cond.fieldLink RX7 13 RX7 "history" "[I"] [667] (by decide +kernel) (by decide +kernel) _ List.mem_cons_self, rfl, rfl, by decide⟩
set_option maxRecDepth 100000 in
theorem poX7_48 : Pok RX7 48 7 2 false .int false := ⟨RX7, TX7, 16, tyX7, rfl, by decide, in_u7, tyX7_ok, nmX7, in_p [Cond.fieldLink RX7 48 RX7 "kept" "I"] [668] (by decide +kernel) (by decide +kernel) _ List.mem_cons_self, rfl, rfl, by decide +kernel, rfl, by decide, fun _ => rfl⟩
set_option maxRecDepth 100000 in
theorem ckX7_52 : CkS RX7 52 yX7_copy cX7_copy 5 none 4 := ⟨in_p [.methodLink RX7 52 yX7_copy, .static yX7_copy, .initialized RX7, .code yX7_copy cX7_copy 5 none] [745, 746, 56, 747] rfl (by decide +kernel), rfl, ⟨by decide +kernel, by decide +kernel, by decide +kernel⟩⟩
set_option maxRecDepth 100000 in
theorem ckX7_56 : CkV RX7 56 yX7_of cX7_of 3 (some .int) 2 := ⟨in_p [.methodLink RX7 56 yX7_of, .instanceMethod yX7_of, .selects yX7_of.cls yX7_of yX7_of, .initialized yX7_of.cls, .code yX7_of cX7_of 3 (some .int)] [737, 739, 16, 56, 740] rfl (by decide +kernel), ⟨by decide +kernel, by decide +kernel, by decide +kernel⟩⟩
set_option maxRecDepth 100000 in
theorem ckX7_60 : CkV RX7 60 yX7_behind cX7_behind 2 (some .int) 1 := ⟨in_p [.methodLink RX7 60 yX7_behind, .instanceMethod yX7_behind, .selects yX7_behind.cls yX7_behind yX7_behind, .initialized yX7_behind.cls, .code yX7_behind cX7_behind 2 (some .int)] [733, 735, 15, 56, 736] rfl (by decide +kernel), ⟨by decide +kernel, by decide +kernel, by decide +kernel⟩⟩
set_option maxRecDepth 100000 in
theorem ckX7_64 : CkV RX7 64 yX7_phraseOf cX7_phraseOf 4 (some .int) 1 := ⟨in_p [.methodLink RX7 64 yX7_phraseOf, .instanceMethod yX7_phraseOf, .selects yX7_phraseOf.cls yX7_phraseOf yX7_phraseOf, .initialized yX7_phraseOf.cls, .code yX7_phraseOf cX7_phraseOf 4 (some .int)] [885, 887, 38, 56, 888] rfl (by decide +kernel), ⟨by decide +kernel, by decide +kernel, by decide +kernel⟩⟩
set_option maxRecDepth 100000 in
theorem ckX7_67 : CkS RX7 67 yX7_isTick cX7_isTick 1 (some .boolean) 1 := ⟨in_p [.methodLink RX7 67 yX7_isTick, .static yX7_isTick, .initialized RX7, .code yX7_isTick cX7_isTick 1 (some .boolean)] [771, 772, 56, 773] rfl (by decide +kernel), rfl, ⟨by decide +kernel, by decide +kernel, by decide +kernel⟩⟩
set_option maxRecDepth 100000 in
theorem foX7_23 : Fok RX7 23 7 7 true := ⟨RX7, TX7, 16, rfl, by decide, in_u7, in_p [Cond.fieldLink RX7 23 RX7 "heard" "[I"] [673] (by decide +kernel) (by decide +kernel) _ List.mem_cons_self, rfl, rfl, by decide⟩
set_option maxRecDepth 100000 in
theorem ckX7_71 : CkS RX7 71 yX7_isPitch cX7_isPitch 1 (some .boolean) 1 := ⟨in_p [.methodLink RX7 71 yX7_isPitch, .static yX7_isPitch, .initialized RX7, .code yX7_isPitch cX7_isPitch 1 (some .boolean)] [719, 720, 56, 721] rfl (by decide +kernel), rfl, ⟨by decide +kernel, by decide +kernel, by decide +kernel⟩⟩
set_option maxRecDepth 100000 in
theorem ckX7_74 : CkV RX7 74 yX7_wantedIn cX7_wantedIn 4 (some .int) 2 := ⟨in_p [.methodLink RX7 74 yX7_wantedIn, .instanceMethod yX7_wantedIn, .selects yX7_wantedIn.cls yX7_wantedIn yX7_wantedIn, .initialized yX7_wantedIn.cls, .code yX7_wantedIn cX7_wantedIn 4 (some .int)] [790, 792, 24, 56, 793] rfl (by decide +kernel), ⟨by decide +kernel, by decide +kernel, by decide +kernel⟩⟩
set_option maxRecDepth 100000 in
theorem ckX7_77 : CkS RX7 77 yX7_size cX7_size 1 (some .int) 1 := ⟨in_p [.methodLink RX7 77 yX7_size, .static yX7_size, .initialized RX7, .code yX7_size cX7_size 1 (some .int)] [794, 795, 56, 796] rfl (by decide +kernel), rfl, ⟨by decide +kernel, by decide +kernel, by decide +kernel⟩⟩
set_option maxRecDepth 100000 in
theorem ckX7_80 : CkV RX7 80 yX7_isOnset cX7_isOnset 2 (some .boolean) 1 := ⟨in_p [.methodLink RX7 80 yX7_isOnset, .instanceMethod yX7_isOnset, .selects yX7_isOnset.cls yX7_isOnset yX7_isOnset, .initialized yX7_isOnset.cls, .code yX7_isOnset cX7_isOnset 2 (some .boolean)] [801, 803, 26, 56, 804] rfl (by decide +kernel), ⟨by decide +kernel, by decide +kernel, by decide +kernel⟩⟩
set_option maxRecDepth 100000 in
theorem foX7_26 : Fok RX7 26 7 8 true := ⟨RX7, TX7, 16, rfl, by decide, in_u7, in_p [Cond.fieldLink RX7 26 RX7 "matching" "[I"] [674] (by decide +kernel) (by decide +kernel) _ List.mem_cons_self, rfl, rfl, by decide⟩
set_option maxRecDepth 100000 in
theorem foX7_29 : Fok RX7 29 7 9 true := ⟨RX7, TX7, 16, rfl, by decide, in_u7, in_p [Cond.fieldLink RX7 29 RX7 "onset" "[I"] [675] (by decide +kernel) (by decide +kernel) _ List.mem_cons_self, rfl, rfl, by decide⟩
set_option maxRecDepth 100000 in
theorem ckX7_83 : CkV RX7 83 yX7_share cX7_share 2 (some .int) 1 := ⟨in_p [.methodLink RX7 83 yX7_share, .instanceMethod yX7_share, .selects yX7_share.cls yX7_share yX7_share, .initialized yX7_share.cls, .code yX7_share cX7_share 2 (some .int)] [809, 811, 28, 56, 812] rfl (by decide +kernel), ⟨by decide +kernel, by decide +kernel, by decide +kernel⟩⟩
set_option maxRecDepth 100000 in
theorem ckX7_86 : CkV RX7 86 yX7_matches cX7_matches 4 (some .boolean) 2 := ⟨in_p [.methodLink RX7 86 yX7_matches, .instanceMethod yX7_matches, .selects yX7_matches.cls yX7_matches yX7_matches, .initialized yX7_matches.cls, .code yX7_matches cX7_matches 4 (some .boolean)] [786, 788, 23, 56, 789] rfl (by decide +kernel), ⟨by decide +kernel, by decide +kernel, by decide +kernel⟩⟩
set_option maxRecDepth 100000 in
theorem foX7_32 : Fok RX7 32 7 10 true := ⟨RX7, TX7, 16, rfl, by decide, in_u7, in_p [Cond.fieldLink RX7 32 RX7 "why" "[I"] [676] (by decide +kernel) (by decide +kernel) _ List.mem_cons_self, rfl, rfl, by decide⟩
set_option maxRecDepth 100000 in
theorem ckX7_90 : CkV RX7 90 yX7_bars cX7_bars 5 (some .int) 2 := ⟨in_p [.methodLink RX7 90 yX7_bars, .instanceMethod yX7_bars, .selects yX7_bars.cls yX7_bars yX7_bars, .initialized yX7_bars.cls, .code yX7_bars cX7_bars 5 (some .int)] [817, 819, 30, 56, 820] rfl (by decide +kernel), ⟨by decide +kernel, by decide +kernel, by decide +kernel⟩⟩
set_option maxRecDepth 100000 in
theorem foX7_35 : Fok RX7 35 7 11 true := ⟨RX7, TX7, 16, rfl, by decide, in_u7, in_p [Cond.fieldLink RX7 35 RX7 "row" "[I"] [677] (by decide +kernel) (by decide +kernel) _ List.mem_cons_self, rfl, rfl, by decide⟩
set_option maxRecDepth 100000 in
theorem ckX7_94 : CkV RX7 94 yX7_nearestOnset cX7_nearestOnset 4 (some .int) 1 := ⟨in_p [.methodLink RX7 94 yX7_nearestOnset, .instanceMethod yX7_nearestOnset, .selects yX7_nearestOnset.cls yX7_nearestOnset yX7_nearestOnset, .initialized yX7_nearestOnset.cls, .code yX7_nearestOnset cX7_nearestOnset 4 (some .int)] [797, 799, 25, 56, 800] rfl (by decide +kernel), ⟨by decide +kernel, by decide +kernel, by decide +kernel⟩⟩
set_option maxRecDepth 100000 in
theorem ckX7_97 : CkV RX7 97 yX7_reasonOf cX7_reasonOf 4 (some .int) 1 := ⟨in_p [.methodLink RX7 97 yX7_reasonOf, .instanceMethod yX7_reasonOf, .selects yX7_reasonOf.cls yX7_reasonOf yX7_reasonOf, .initialized yX7_reasonOf.cls, .code yX7_reasonOf cX7_reasonOf 4 (some .int)] [805, 807, 27, 56, 808] rfl (by decide +kernel), ⟨by decide +kernel, by decide +kernel, by decide +kernel⟩⟩
set_option maxRecDepth 100000 in
theorem foX7_38 : Fok RX7 38 7 12 true := ⟨RX7, TX7, 16, rfl, by decide, in_u7, in_p [Cond.fieldLink RX7 38 RX7 "points" "[I"] [678] (by decide +kernel) (by decide +kernel) _ List.mem_cons_self, rfl, rfl, by decide⟩
set_option maxRecDepth 100000 in
theorem ckX7_100 : CkV RX7 100 yX7_pointsOf cX7_pointsOf 3 (some .int) 1 := ⟨in_p [.methodLink RX7 100 yX7_pointsOf, .instanceMethod yX7_pointsOf, .selects yX7_pointsOf.cls yX7_pointsOf yX7_pointsOf, .initialized yX7_pointsOf.cls, .code yX7_pointsOf cX7_pointsOf 3 (some .int)] [813, 815, 29, 56, 816] rfl (by decide +kernel), ⟨by decide +kernel, by decide +kernel, by decide +kernel⟩⟩
set_option maxRecDepth 100000 in
theorem ckX7_103 : CkV RX7 103 yX7_hear cX7_hear 5 none 2 := ⟨in_p [.methodLink RX7 103 yX7_hear, .instanceMethod yX7_hear, .selects yX7_hear.cls yX7_hear yX7_hear, .initialized yX7_hear.cls, .code yX7_hear cX7_hear 5 none] [778, 780, 21, 56, 781] rfl (by decide +kernel), ⟨by decide +kernel, by decide +kernel, by decide +kernel⟩⟩
set_option maxRecDepth 100000 in
theorem ckX7_107 : CkV RX7 107 yX7_judge cX7_judge 4 none 0 := ⟨in_p [.methodLink RX7 107 yX7_judge, .instanceMethod yX7_judge, .selects yX7_judge.cls yX7_judge yX7_judge, .initialized yX7_judge.cls, .code yX7_judge cX7_judge 4 none] [782, 784, 22, 56, 785] rfl (by decide +kernel), ⟨by decide +kernel, by decide +kernel, by decide +kernel⟩⟩
set_option maxRecDepth 100000 in
theorem ckX7_110 : CkV RX7 110 yX7_phrases cX7_phrases 1 (some .int) 0 := ⟨in_p [.methodLink RX7 110 yX7_phrases, .instanceMethod yX7_phrases, .selects yX7_phrases.cls yX7_phrases yX7_phrases, .initialized yX7_phrases.cls, .code yX7_phrases cX7_phrases 1 (some .int)] [909, 911, 40, 56, 912] rfl (by decide +kernel), ⟨by decide +kernel, by decide +kernel, by decide +kernel⟩⟩
set_option maxRecDepth 100000 in
theorem ckX7_114 : CkV RX7 114 yX7_ofPhrase cX7_ofPhrase 10 (some .int) 2 := ⟨in_p [.methodLink RX7 114 yX7_ofPhrase, .instanceMethod yX7_ofPhrase, .selects yX7_ofPhrase.cls yX7_ofPhrase yX7_ofPhrase, .initialized yX7_ofPhrase.cls, .code yX7_ofPhrase cX7_ofPhrase 10 (some .int)] [913, 915, 41, 56, 916] rfl (by decide +kernel), ⟨by decide +kernel, by decide +kernel, by decide +kernel⟩⟩
set_option maxRecDepth 100000 in
theorem ckX7_117 : CkV RX7 117 yX7_endOfSong cX7_endOfSong 1 (some .int) 0 := ⟨in_p [.methodLink RX7 117 yX7_endOfSong, .instanceMethod yX7_endOfSong, .selects yX7_endOfSong.cls yX7_endOfSong yX7_endOfSong, .initialized yX7_endOfSong.cls, .code yX7_endOfSong cX7_endOfSong 1 (some .int)] [729, 731, 14, 56, 732] rfl (by decide +kernel), ⟨by decide +kernel, by decide +kernel, by decide +kernel⟩⟩
set_option maxRecDepth 100000 in
theorem ckX7_120 : CkV RX7 120 yX7_lay cX7_lay 4 none 3 := ⟨in_p [.methodLink RX7 120 yX7_lay, .instanceMethod yX7_lay, .selects yX7_lay.cls yX7_lay yX7_lay, .initialized yX7_lay.cls, .code yX7_lay cX7_lay 4 none] [752, 754, 19, 56, 755] rfl (by decide +kernel), ⟨by decide +kernel, by decide +kernel, by decide +kernel⟩⟩
set_option maxRecDepth 100000 in
theorem ckX7_124 : CkV RX7 124 yX7_addError cX7_addError 4 (some .int) 3 := ⟨in_p [.methodLink RX7 124 yX7_addError, .instanceMethod yX7_addError, .selects yX7_addError.cls yX7_addError yX7_addError, .initialized yX7_addError.cls, .code yX7_addError cX7_addError 4 (some .int)] [725, 727, 13, 56, 728] rfl (by decide +kernel), ⟨by decide +kernel, by decide +kernel, by decide +kernel⟩⟩
set_option maxRecDepth 100000 in
theorem ckX7_128 : CkV RX7 128 yX7_record cX7_record 2 none 0 := ⟨in_p [.methodLink RX7 128 yX7_record, .instanceMethod yX7_record, .selects yX7_record.cls yX7_record yX7_record, .initialized yX7_record.cls, .code yX7_record cX7_record 2 none] [741, 743, 17, 56, 744] rfl (by decide +kernel), ⟨by decide +kernel, by decide +kernel, by decide +kernel⟩⟩
set_option maxRecDepth 100000 in
theorem ckX7_131 : CkV RX7 131 yX7_doAdd cX7_doAdd 7 (some .int) 5 := ⟨in_p [.methodLink RX7 131 yX7_doAdd, .instanceMethod yX7_doAdd, .selects yX7_doAdd.cls yX7_doAdd yX7_doAdd, .initialized yX7_doAdd.cls, .code yX7_doAdd cX7_doAdd 7 (some .int)] [748, 750, 18, 56, 751] rfl (by decide +kernel), ⟨by decide +kernel, by decide +kernel, by decide +kernel⟩⟩
set_option maxRecDepth 100000 in
theorem ckX7_135 : CkS RX7 135 yX7_settingError cX7_settingError 2 (some .int) 2 := ⟨in_p [.methodLink RX7 135 yX7_settingError, .static yX7_settingError, .initialized RX7, .code yX7_settingError cX7_settingError 2 (some .int)] [764, 765, 56, 766] rfl (by decide +kernel), rfl, ⟨by decide +kernel, by decide +kernel, by decide +kernel⟩⟩
set_option maxRecDepth 100000 in
theorem ckX7_138 : CkV RX7 138 yX7_judgeSong cX7_judgeSong 1 none 0 := ⟨in_p [.methodLink RX7 138 yX7_judgeSong, .instanceMethod yX7_judgeSong, .selects yX7_judgeSong.cls yX7_judgeSong yX7_judgeSong, .initialized yX7_judgeSong.cls, .code yX7_judgeSong cX7_judgeSong 1 none] [774, 776, 20, 56, 777] rfl (by decide +kernel), ⟨by decide +kernel, by decide +kernel, by decide +kernel⟩⟩
set_option maxRecDepth 100000 in
theorem ckX7_141 : CkV RX7 141 yX7_hits cX7_hits 3 (some .int) 0 := ⟨in_p [.methodLink RX7 141 yX7_hits, .instanceMethod yX7_hits, .selects yX7_hits.cls yX7_hits yX7_hits, .initialized yX7_hits.cls, .code yX7_hits cX7_hits 3 (some .int)] [821, 823, 31, 56, 824] rfl (by decide +kernel), ⟨by decide +kernel, by decide +kernel, by decide +kernel⟩⟩
set_option maxRecDepth 100000 in
theorem ckX7_144 : CkV RX7 144 yX7_isSyllable cX7_isSyllable 2 (some .boolean) 1 := ⟨in_p [.methodLink RX7 144 yX7_isSyllable, .instanceMethod yX7_isSyllable, .selects yX7_isSyllable.cls yX7_isSyllable yX7_isSyllable, .initialized yX7_isSyllable.cls, .code yX7_isSyllable cX7_isSyllable 2 (some .boolean)] [833, 835, 32, 56, 836] rfl (by decide +kernel), ⟨by decide +kernel, by decide +kernel, by decide +kernel⟩⟩
set_option maxRecDepth 100000 in
theorem foX7_147 : Fok RX7 147 7 6 false := ⟨RX7, TX7, 16, rfl, by decide, in_u7, in_p [Cond.fieldLink RX7 147 RX7 "length" "I"] [672] (by decide +kernel) (by decide +kernel) _ List.mem_cons_self, rfl, rfl, by decide⟩
set_option maxRecDepth 100000 in
theorem foX7_19 : Fok RX7 19 7 5 true := ⟨RX7, TX7, 16, rfl, by decide, in_u7, in_p [Cond.fieldLink RX7 19 RX7 "text" "[C"] [671] (by decide +kernel) (by decide +kernel) _ List.mem_cons_self, rfl, rfl, by decide⟩
set_option maxRecDepth 100000 in
theorem poX7_147 : Pok RX7 147 7 6 false .int false := ⟨RX7, TX7, 16, tyX7, rfl, by decide, in_u7, tyX7_ok, nmX7, in_p [Cond.fieldLink RX7 147 RX7 "length" "I"] [672] (by decide +kernel) (by decide +kernel) _ List.mem_cons_self, rfl, rfl, by decide +kernel, rfl, by decide, fun _ => rfl⟩
set_option maxRecDepth 100000 in
theorem foX7_150 : Fok RX7 150 7 13 false := ⟨RX7, TX7, 16, rfl, by decide, in_u7, in_p [Cond.fieldLink RX7 150 RX7 "place" "I"] [679] (by decide +kernel) (by decide +kernel) _ List.mem_cons_self, rfl, rfl, by decide⟩
set_option maxRecDepth 100000 in
theorem ckX7_153 : CkV RX7 153 yX7_isNext cX7_isNext 3 (some .boolean) 2 := ⟨in_p [.methodLink RX7 153 yX7_isNext, .instanceMethod yX7_isNext, .selects yX7_isNext.cls yX7_isNext yX7_isNext, .initialized yX7_isNext.cls, .code yX7_isNext cX7_isNext 3 (some .boolean)] [861, 863, 36, 56, 864] rfl (by decide +kernel), ⟨by decide +kernel, by decide +kernel, by decide +kernel⟩⟩
set_option maxRecDepth 100000 in
theorem poX7_150 : Pok RX7 150 7 13 false .int false := ⟨RX7, TX7, 16, tyX7, rfl, by decide, in_u7, tyX7_ok, nmX7, in_p [Cond.fieldLink RX7 150 RX7 "place" "I"] [679] (by decide +kernel) (by decide +kernel) _ List.mem_cons_self, rfl, rfl, by decide +kernel, rfl, by decide, fun _ => rfl⟩
set_option maxRecDepth 100000 in
theorem foX7_41 : Fok RX7 41 7 14 true := ⟨RX7, TX7, 16, rfl, by decide, in_u7, in_p [Cond.fieldLink RX7 41 RX7 "told" "[I"] [680] (by decide +kernel) (by decide +kernel) _ List.mem_cons_self, rfl, rfl, by decide⟩
set_option maxRecDepth 100000 in
theorem ckX7_156 : CkV RX7 156 yX7_takes cX7_takes 3 (some .boolean) 1 := ⟨in_p [.methodLink RX7 156 yX7_takes, .instanceMethod yX7_takes, .selects yX7_takes.cls yX7_takes yX7_takes, .initialized yX7_takes.cls, .code yX7_takes cX7_takes 3 (some .boolean)] [857, 859, 35, 56, 860] rfl (by decide +kernel), ⟨by decide +kernel, by decide +kernel, by decide +kernel⟩⟩
set_option maxRecDepth 100000 in
theorem ckX7_159 : CkV RX7 159 yX7_readNumber cX7_readNumber 5 (some .boolean) 3 := ⟨in_p [.methodLink RX7 159 yX7_readNumber, .instanceMethod yX7_readNumber, .selects yX7_readNumber.cls yX7_readNumber yX7_readNumber, .initialized yX7_readNumber.cls, .code yX7_readNumber cX7_readNumber 5 (some .boolean)] [865, 867, 37, 56, 868] rfl (by decide +kernel), ⟨by decide +kernel, by decide +kernel, by decide +kernel⟩⟩
set_option maxRecDepth 100000 in
theorem poX7_162 : Pok RX7 162 7 15 false .int false := ⟨RX7, TX7, 16, tyX7, rfl, by decide, in_u7, tyX7_ok, nmX7, in_p [Cond.fieldLink RX7 162 RX7 "ticksOfText" "I"] [681] (by decide +kernel) (by decide +kernel) _ List.mem_cons_self, rfl, rfl, by decide +kernel, rfl, by decide, fun _ => rfl⟩
set_option maxRecDepth 100000 in
theorem ckX7_165 : CkV RX7 165 yX7_readSyllable cX7_readSyllable 1 (some .boolean) 0 := ⟨in_p [.methodLink RX7 165 yX7_readSyllable, .instanceMethod yX7_readSyllable, .selects yX7_readSyllable.cls yX7_readSyllable yX7_readSyllable, .initialized yX7_readSyllable.cls, .code yX7_readSyllable cX7_readSyllable 1 (some .boolean)] [853, 855, 34, 56, 856] rfl (by decide +kernel), ⟨by decide +kernel, by decide +kernel, by decide +kernel⟩⟩
set_option maxRecDepth 100000 in
theorem foX7_162 : Fok RX7 162 7 15 false := ⟨RX7, TX7, 16, rfl, by decide, in_u7, in_p [Cond.fieldLink RX7 162 RX7 "ticksOfText" "I"] [681] (by decide +kernel) (by decide +kernel) _ List.mem_cons_self, rfl, rfl, by decide⟩
set_option maxRecDepth 100000 in
theorem ckX7_169 : CkV RX7 169 yX7_readText cX7_readText 4 (some .boolean) 1 := ⟨in_p [.methodLink RX7 169 yX7_readText, .instanceMethod yX7_readText, .selects yX7_readText.cls yX7_readText yX7_readText, .initialized yX7_readText.cls, .code yX7_readText cX7_readText 4 (some .boolean)] [849, 851, 33, 56, 852] rfl (by decide +kernel), ⟨by decide +kernel, by decide +kernel, by decide +kernel⟩⟩
set_option maxRecDepth 100000 in
theorem foX7_16 : Fok RX7 16 7 3 true := ⟨RX7, TX7, 16, rfl, by decide, in_u7, in_p [Cond.fieldLink RX7 16 RX7 "snapshot" "[I"] [669] (by decide +kernel) (by decide +kernel) _ List.mem_cons_self, rfl, rfl, by decide⟩
set_option maxRecDepth 100000 in
theorem poX7_173 : Pok RX7 173 7 4 false .boolean false := ⟨RX7, TX7, 16, tyX7, rfl, by decide, in_u7, tyX7_ok, nmX7, in_p [Cond.fieldLink RX7 173 RX7 "isTaken" "Z"] [670] (by decide +kernel) (by decide +kernel) _ List.mem_cons_self, rfl, rfl, by decide +kernel, rfl, by decide, fun _ => rfl⟩
set_option maxRecDepth 100000 in
theorem foX7_173 : Fok RX7 173 7 4 false := ⟨RX7, TX7, 16, rfl, by decide, in_u7, in_p [Cond.fieldLink RX7 173 RX7 "isTaken" "Z"] [670] (by decide +kernel) (by decide +kernel) _ List.mem_cons_self, rfl, rfl, by decide⟩
set_option maxRecDepth 100000 in
theorem ckX7_177 : CkV RX7 177 yX7_syllableAt cX7_syllableAt 4 (some .int) 1 := ⟨in_p [.methodLink RX7 177 yX7_syllableAt, .instanceMethod yX7_syllableAt, .selects yX7_syllableAt.cls yX7_syllableAt yX7_syllableAt, .initialized yX7_syllableAt.cls, .code yX7_syllableAt cX7_syllableAt 4 (some .int)] [893, 895, 39, 56, 896] rfl (by decide +kernel), ⟨by decide +kernel, by decide +kernel, by decide +kernel⟩⟩
set_option maxRecDepth 100000 in
theorem ckX7_180 : CkV RX7 180 yX7_sungTicks cX7_sungTicks 3 (some .int) 0 := ⟨in_p [.methodLink RX7 180 yX7_sungTicks, .instanceMethod yX7_sungTicks, .selects yX7_sungTicks.cls yX7_sungTicks yX7_sungTicks, .initialized yX7_sungTicks.cls, .code yX7_sungTicks cX7_sungTicks 3 (some .int)] [921, 923, 42, 56, 924] rfl (by decide +kernel), ⟨by decide +kernel, by decide +kernel, by decide +kernel⟩⟩
set_option maxRecDepth 100000 in
theorem ckX7_183 : CkV RX7 183 yX7_onsets cX7_onsets 3 (some .int) 0 := ⟨in_p [.methodLink RX7 183 yX7_onsets, .instanceMethod yX7_onsets, .selects yX7_onsets.cls yX7_onsets yX7_onsets, .initialized yX7_onsets.cls, .code yX7_onsets cX7_onsets 3 (some .int)] [925, 927, 43, 56, 928] rfl (by decide +kernel), ⟨by decide +kernel, by decide +kernel, by decide +kernel⟩⟩
set_option maxRecDepth 100000 in
theorem ckX7_186 : CkV RX7 186 yX7_allPoints cX7_allPoints 3 (some .int) 0 := ⟨in_p [.methodLink RX7 186 yX7_allPoints, .instanceMethod yX7_allPoints, .selects yX7_allPoints.cls yX7_allPoints yX7_allPoints, .initialized yX7_allPoints.cls, .code yX7_allPoints cX7_allPoints 3 (some .int)] [929, 931, 44, 56, 932] rfl (by decide +kernel), ⟨by decide +kernel, by decide +kernel, by decide +kernel⟩⟩
set_option maxRecDepth 100000 in
theorem ckX7_189 : CkV RX7 189 yX7_mostPoints cX7_mostPoints 4 (some .int) 0 := ⟨in_p [.methodLink RX7 189 yX7_mostPoints, .instanceMethod yX7_mostPoints, .selects yX7_mostPoints.cls yX7_mostPoints yX7_mostPoints, .initialized yX7_mostPoints.cls, .code yX7_mostPoints cX7_mostPoints 4 (some .int)] [933, 935, 45, 56, 936] rfl (by decide +kernel), ⟨by decide +kernel, by decide +kernel, by decide +kernel⟩⟩
set_option maxRecDepth 100000 in
theorem ckX7_192 : CkV RX7 192 yX7_pointsShifted cX7_pointsShifted 3 (some .int) 2 := ⟨in_p [.methodLink RX7 192 yX7_pointsShifted, .instanceMethod yX7_pointsShifted, .selects yX7_pointsShifted.cls yX7_pointsShifted yX7_pointsShifted, .initialized yX7_pointsShifted.cls, .code yX7_pointsShifted cX7_pointsShifted 3 (some .int)] [941, 943, 46, 56, 944] rfl (by decide +kernel), ⟨by decide +kernel, by decide +kernel, by decide +kernel⟩⟩
