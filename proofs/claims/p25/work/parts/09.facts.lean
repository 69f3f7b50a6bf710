theorem in_u0 : ∀ w ∈ u_ws RX0 TX0 2, w ∈ gtb := in_p _ [88, 90] (by decide +kernel) (by decide +kernel)
theorem in_u1 : ∀ w ∈ u_ws RX1 TX1 12, w ∈ gtb := in_p _ [143, 145, 147, 149, 151, 153, 155, 157, 159, 161, 163, 165] (by decide +kernel) (by decide +kernel)
theorem in_u2 : ∀ w ∈ u_ws RX2 TX2 3, w ∈ gtb := in_p _ [116, 118, 120] (by decide +kernel) (by decide +kernel)
theorem in_u3 : ∀ w ∈ u_ws RX3 TX3 6, w ∈ gtb := in_p _ [46, 48, 50, 52, 54, 56] (by decide +kernel) (by decide +kernel)
theorem in_u4 : ∀ w ∈ u_ws RX4 TX4 3, w ∈ gtb := in_p _ [70, 72, 74] (by decide +kernel) (by decide +kernel)
theorem in_u5 : ∀ w ∈ u_ws RX5 TX5 2, w ∈ gtb := in_p _ [101, 103] (by decide +kernel) (by decide +kernel)
theorem in_u6 : ∀ w ∈ u_ws RX6 TX6 8, w ∈ gtb := in_p _ [176, 178, 180, 182, 184, 186, 188, 190] (by decide +kernel) (by decide +kernel)
set_option maxRecDepth 100000 in
theorem oiX6_1 : ∀ w ∈ ([.methodLink RX6 1 Lib.objectInit, .instanceMethod Lib.objectInit, .code Lib.objectInit ⟨#[0xb1]⟩ 1 none] : List Cond), w ∈ gtb := in_p [.methodLink RX6 1 Lib.objectInit, .instanceMethod Lib.objectInit, .code Lib.objectInit ⟨#[0xb1]⟩ 1 none] [25, 26, 27] rfl (by decide +kernel)
set_option maxRecDepth 100000 in
theorem ckX6_9 : CkI RX6 9 yX4_init cX4_init 2 0 := ⟨in_p [.methodLink RX6 9 yX4_init, .instanceMethod yX4_init, .initialized yX4_init.cls, .code yX4_init cX4_init 2 none] [30, 31, 12, 32] rfl (by decide +kernel), rfl, ⟨by decide +kernel, by decide +kernel, by decide +kernel⟩⟩
set_option maxRecDepth 100000 in
theorem noX6_7 : Nok RX6 7 4 := ⟨RX4, TX4, 3, tyX4, rfl, in_u4, tyX4_ok, in_p [Cond.classLink RX6 7 RX4] [28] rfl (by decide +kernel) _ List.mem_cons_self, in_p [Cond.instantiable RX4 3] [29] rfl (by decide +kernel) _ List.mem_cons_self, in_p [Cond.initialized RX4] [12] rfl (by decide +kernel) _ List.mem_cons_self, by decide, rfl, by decide +kernel⟩
set_option maxRecDepth 100000 in
theorem poX6_10 : Pok RX6 10 6 0 true (.object "SungSlides$State") true := ⟨RX6, TX6, 8, tyX6, rfl, by decide, in_u6, tyX6_ok, nmX6, in_p [Cond.fieldLink RX6 10 RX6 "now" "LSungSlides$State;"] [168] (by decide +kernel) (by decide +kernel) _ List.mem_cons_self, rfl, rfl, by decide +kernel, rfl, by decide, fun _ => rfl⟩
set_option maxRecDepth 100000 in
theorem poX6_16 : Pok RX6 16 6 1 true (.object "SungSlides$State") true := ⟨RX6, TX6, 8, tyX6, rfl, by decide, in_u6, tyX6_ok, nmX6, in_p [Cond.fieldLink RX6 16 RX6 "would" "LSungSlides$State;"] [169] (by decide +kernel) (by decide +kernel) _ List.mem_cons_self, rfl, rfl, by decide +kernel, rfl, by decide, fun _ => rfl⟩
set_option maxRecDepth 100000 in
theorem poX6_19 : Pok RX6 19 6 2 true (.object "SungSlides$State") true := ⟨RX6, TX6, 8, tyX6, rfl, by decide, in_u6, tyX6_ok, nmX6, in_p [Cond.fieldLink RX6 19 RX6 "snapshot" "LSungSlides$State;"] [170] (by decide +kernel) (by decide +kernel) _ List.mem_cons_self, rfl, rfl, by decide +kernel, rfl, by decide, fun _ => rfl⟩
set_option maxRecDepth 100000 in
theorem poX6_22 : Pok RX6 22 6 3 false .boolean false := ⟨RX6, TX6, 8, tyX6, rfl, by decide, in_u6, tyX6_ok, nmX6, in_p [Cond.fieldLink RX6 22 RX6 "hasSnapshot" "Z"] [171] (by decide +kernel) (by decide +kernel) _ List.mem_cons_self, rfl, rfl, by decide +kernel, rfl, by decide, fun _ => rfl⟩
set_option maxRecDepth 100000 in
theorem ckX6_28 : CkI RX6 28 yX0_init cX0_init 2 0 := ⟨in_p [.methodLink RX6 28 yX0_init, .instanceMethod yX0_init, .initialized yX0_init.cls, .code yX0_init cX0_init 2 none] [79, 80, 15, 81] rfl (by decide +kernel), rfl, ⟨by decide +kernel, by decide +kernel, by decide +kernel⟩⟩
set_option maxRecDepth 100000 in
theorem noX6_26 : Nok RX6 26 0 := ⟨RX0, TX0, 2, tyX0, rfl, in_u0, tyX0_ok, in_p [Cond.classLink RX6 26 RX0] [77] rfl (by decide +kernel) _ List.mem_cons_self, in_p [Cond.instantiable RX0 2] [78] rfl (by decide +kernel) _ List.mem_cons_self, in_p [Cond.initialized RX0] [15] rfl (by decide +kernel) _ List.mem_cons_self, by decide, rfl, by decide +kernel⟩
set_option maxRecDepth 100000 in
theorem poX6_29 : Pok RX6 29 6 4 true (.object "SungSlides$History") true := ⟨RX6, TX6, 8, tyX6, rfl, by decide, in_u6, tyX6_ok, nmX6, in_p [Cond.fieldLink RX6 29 RX6 "history" "LSungSlides$History;"] [172] (by decide +kernel) (by decide +kernel) _ List.mem_cons_self, rfl, rfl, by decide +kernel, rfl, by decide, fun _ => rfl⟩
set_option maxRecDepth 100000 in
theorem ckX6_35 : CkIN RX6 35 "SungSlides" yX5_init cX5_init 1 0 := ⟨in_p [.instanceMethod yX5_init, .initialized yX5_init.cls, .code yX5_init cX5_init 1 none] [96, 16, 97] rfl (by decide +kernel), rfl, ⟨by decide +kernel, by decide +kernel, by decide +kernel⟩, in_n _ 95 rfl rfl⟩
set_option maxRecDepth 100000 in
theorem noX6_33 : Nok RX6 33 5 := ⟨RX5, TX5, 2, tyX5, rfl, in_u5, tyX5_ok, in_p [Cond.classLink RX6 33 RX5] [93] rfl (by decide +kernel) _ List.mem_cons_self, in_p [Cond.instantiable RX5 2] [94] rfl (by decide +kernel) _ List.mem_cons_self, in_p [Cond.initialized RX5] [16] rfl (by decide +kernel) _ List.mem_cons_self, by decide, rfl, by decide +kernel⟩
set_option maxRecDepth 100000 in
theorem poX6_36 : Pok RX6 36 6 5 true (.object "SungSlides$Text") true := ⟨RX6, TX6, 8, tyX6, rfl, by decide, in_u6, tyX6_ok, nmX6, in_p [Cond.fieldLink RX6 36 RX6 "text" "LSungSlides$Text;"] [173] (by decide +kernel) (by decide +kernel) _ List.mem_cons_self, rfl, rfl, by decide +kernel, rfl, by decide, fun _ => rfl⟩
set_option maxRecDepth 100000 in
theorem ckX6_42 : CkIN RX6 42 "SungSlides" yX2_init cX2_init 1 0 := ⟨in_p [.instanceMethod yX2_init, .initialized yX2_init.cls, .code yX2_init cX2_init 1 none] [110, 17, 111] rfl (by decide +kernel), rfl, ⟨by decide +kernel, by decide +kernel, by decide +kernel⟩, in_n _ 109 rfl rfl⟩
set_option maxRecDepth 100000 in
theorem noX6_40 : Nok RX6 40 2 := ⟨RX2, TX2, 3, tyX2, rfl, in_u2, tyX2_ok, in_p [Cond.classLink RX6 40 RX2] [107] rfl (by decide +kernel) _ List.mem_cons_self, in_p [Cond.instantiable RX2 3] [108] rfl (by decide +kernel) _ List.mem_cons_self, in_p [Cond.initialized RX2] [17] rfl (by decide +kernel) _ List.mem_cons_self, by decide, rfl, by decide +kernel⟩
set_option maxRecDepth 100000 in
theorem poX6_43 : Pok RX6 43 6 6 true (.object "SungSlides$Reader") true := ⟨RX6, TX6, 8, tyX6, rfl, by decide, in_u6, tyX6_ok, nmX6, in_p [Cond.fieldLink RX6 43 RX6 "reader" "LSungSlides$Reader;"] [174] (by decide +kernel) (by decide +kernel) _ List.mem_cons_self, rfl, rfl, by decide +kernel, rfl, by decide, fun _ => rfl⟩
set_option maxRecDepth 100000 in
theorem ckX6_49 : CkIN RX6 49 "SungSlides" yX1_init cX1_init 1 0 := ⟨in_p [.instanceMethod yX1_init, .initialized yX1_init.cls, .code yX1_init cX1_init 1 none] [126, 18, 127] rfl (by decide +kernel), rfl, ⟨by decide +kernel, by decide +kernel, by decide +kernel⟩, in_n _ 125 rfl rfl⟩
set_option maxRecDepth 100000 in
theorem noX6_47 : Nok RX6 47 1 := ⟨RX1, TX1, 12, tyX1, rfl, in_u1, tyX1_ok, in_p [Cond.classLink RX6 47 RX1] [123] rfl (by decide +kernel) _ List.mem_cons_self, in_p [Cond.instantiable RX1 12] [124] rfl (by decide +kernel) _ List.mem_cons_self, in_p [Cond.initialized RX1] [18] rfl (by decide +kernel) _ List.mem_cons_self, by decide, rfl, by decide +kernel⟩
set_option maxRecDepth 100000 in
theorem poX6_50 : Pok RX6 50 6 7 true (.object "SungSlides$Judge") true := ⟨RX6, TX6, 8, tyX6, rfl, by decide, in_u6, tyX6_ok, nmX6, in_p [Cond.fieldLink RX6 50 RX6 "judge" "LSungSlides$Judge;"] [175] (by decide +kernel) (by decide +kernel) _ List.mem_cons_self, rfl, rfl, by decide +kernel, rfl, by decide, fun _ => rfl⟩
set_option maxRecDepth 100000 in
theorem ckX6_54 : CkS RX6 54 yX6_isWithin cX6_isWithin 3 (some .boolean) 3 := ⟨in_p [.methodLink RX6 54 yX6_isWithin, .static yX6_isWithin, .initialized RX6, .code yX6_isWithin cX6_isWithin 3 (some .boolean)] [197, 198, 11, 199] rfl (by decide +kernel), rfl, ⟨by decide +kernel, by decide +kernel, by decide +kernel⟩⟩
set_option maxRecDepth 100000 in
theorem foX6_10 : Fok RX6 10 6 0 true := ⟨RX6, TX6, 8, rfl, by decide, in_u6, in_p [Cond.fieldLink RX6 10 RX6 "now" "LSungSlides$State;"] [168] (by decide +kernel) (by decide +kernel) _ List.mem_cons_self, rfl, rfl, by decide⟩
set_option maxRecDepth 100000 in
theorem foX6_58 : Fok RX6 58 4 0 true := ⟨RX4, TX4, 3, rfl, by decide, in_u4, in_p [Cond.fieldLink RX6 58 RX4 "song" "LSungSlides$Song;"] [67] (by decide +kernel) (by decide +kernel) _ List.mem_cons_self, rfl, rfl, by decide⟩
set_option maxRecDepth 100000 in
theorem ckX6_62 : CkV RX6 62 yX3_hasRoomFor cX3_hasRoomFor 3 (some .boolean) 2 := ⟨in_p [.methodLink RX6 62 yX3_hasRoomFor, .instanceMethod yX3_hasRoomFor, .selects yX3_hasRoomFor.cls yX3_hasRoomFor yX3_hasRoomFor, .initialized yX3_hasRoomFor.cls, .code yX3_hasRoomFor cX3_hasRoomFor 3 (some .boolean)] [524, 525, 526, 13, 527] rfl (by decide +kernel), ⟨by decide +kernel, by decide +kernel, by decide +kernel⟩⟩
set_option maxRecDepth 100000 in
theorem foX6_29 : Fok RX6 29 6 4 true := ⟨RX6, TX6, 8, rfl, by decide, in_u6, in_p [Cond.fieldLink RX6 29 RX6 "history" "LSungSlides$History;"] [172] (by decide +kernel) (by decide +kernel) _ List.mem_cons_self, rfl, rfl, by decide⟩
set_option maxRecDepth 100000 in
theorem ckX6_68 : CkV RX6 68 yX0_record cX0_record 2 none 1 := ⟨in_p [.methodLink RX6 68 yX0_record, .instanceMethod yX0_record, .selects yX0_record.cls yX0_record yX0_record, .initialized yX0_record.cls, .code yX0_record cX0_record 2 none] [507, 508, 509, 15, 510] rfl (by decide +kernel), ⟨by decide +kernel, by decide +kernel, by decide +kernel⟩⟩
set_option maxRecDepth 100000 in
theorem ckX6_72 : CkV RX6 72 yX3_append cX3_append 8 (some .int) 5 := ⟨in_p [.methodLink RX6 72 yX3_append, .instanceMethod yX3_append, .selects yX3_append.cls yX3_append yX3_append, .initialized yX3_append.cls, .code yX3_append cX3_append 8 (some .int)] [529, 530, 531, 13, 532] rfl (by decide +kernel), ⟨by decide +kernel, by decide +kernel, by decide +kernel⟩⟩
set_option maxRecDepth 100000 in
theorem ckX6_76 : CkV RX6 76 yX3_size cX3_size 1 (some .int) 0 := ⟨in_p [.methodLink RX6 76 yX3_size, .instanceMethod yX3_size, .selects yX3_size.cls yX3_size yX3_size, .initialized yX3_size.cls, .code yX3_size cX3_size 1 (some .int)] [207, 208, 209, 13, 210] rfl (by decide +kernel), ⟨by decide +kernel, by decide +kernel, by decide +kernel⟩⟩
set_option maxRecDepth 100000 in
theorem ckX6_80 : CkV RX6 80 yX3_removeLast cX3_removeLast 1 (some .int) 0 := ⟨in_p [.methodLink RX6 80 yX3_removeLast, .instanceMethod yX3_removeLast, .selects yX3_removeLast.cls yX3_removeLast yX3_removeLast, .initialized yX3_removeLast.cls, .code yX3_removeLast cX3_removeLast 1 (some .int)] [538, 539, 540, 13, 541] rfl (by decide +kernel), ⟨by decide +kernel, by decide +kernel, by decide +kernel⟩⟩
set_option maxRecDepth 100000 in
theorem ckX6_101 : CkS RX6 101 yX6_isSetting cX6_isSetting 1 (some .boolean) 1 := ⟨in_p [.methodLink RX6 101 yX6_isSetting, .static yX6_isSetting, .initialized RX6, .code yX6_isSetting cX6_isSetting 1 (some .boolean)] [200, 201, 11, 202] rfl (by decide +kernel), rfl, ⟨by decide +kernel, by decide +kernel, by decide +kernel⟩⟩
set_option maxRecDepth 100000 in
theorem ckX6_105 : CkS RX6 105 yX6_isValueOf cX6_isValueOf 2 (some .boolean) 2 := ⟨in_p [.methodLink RX6 105 yX6_isValueOf, .static yX6_isValueOf, .initialized RX6, .code yX6_isValueOf cX6_isValueOf 2 (some .boolean)] [488, 489, 11, 490] rfl (by decide +kernel), rfl, ⟨by decide +kernel, by decide +kernel, by decide +kernel⟩⟩
set_option maxRecDepth 100000 in
theorem ckX6_108 : CkV RX6 108 yX4_setting cX4_setting 2 (some .int) 1 := ⟨in_p [.methodLink RX6 108 yX4_setting, .instanceMethod yX4_setting, .selects yX4_setting.cls yX4_setting yX4_setting, .initialized yX4_setting.cls, .code yX4_setting cX4_setting 2 (some .int)] [203, 204, 205, 12, 206] rfl (by decide +kernel), ⟨by decide +kernel, by decide +kernel, by decide +kernel⟩⟩
set_option maxRecDepth 100000 in
theorem ckX6_112 : CkV RX6 112 yX4_change cX4_change 3 none 2 := ⟨in_p [.methodLink RX6 112 yX4_change, .instanceMethod yX4_change, .selects yX4_change.cls yX4_change yX4_change, .initialized yX4_change.cls, .code yX4_change cX4_change 3 none] [495, 496, 497, 12, 498] rfl (by decide +kernel), ⟨by decide +kernel, by decide +kernel, by decide +kernel⟩⟩
set_option maxRecDepth 100000 in
theorem ckX6_116 : CkS RX6 116 yX6_areTicks cX6_areTicks 3 (some .boolean) 3 := ⟨in_p [.methodLink RX6 116 yX6_areTicks, .static yX6_areTicks, .initialized RX6, .code yX6_areTicks cX6_areTicks 3 (some .boolean)] [557, 558, 11, 559] rfl (by decide +kernel), rfl, ⟨by decide +kernel, by decide +kernel, by decide +kernel⟩⟩
set_option maxRecDepth 100000 in
theorem ckX6_119 : CkV RX6 119 yX4_voice cX4_voice 5 none 3 := ⟨in_p [.methodLink RX6 119 yX4_voice, .instanceMethod yX4_voice, .selects yX4_voice.cls yX4_voice yX4_voice, .initialized yX4_voice.cls, .code yX4_voice cX4_voice 5 none] [560, 561, 562, 12, 563] rfl (by decide +kernel), ⟨by decide +kernel, by decide +kernel, by decide +kernel⟩⟩
set_option maxRecDepth 100000 in
theorem ckX6_123 : CkV RX6 123 yX6_hitsNow cX6_hitsNow 1 (some .int) 0 := ⟨in_p [.methodLink RX6 123 yX6_hitsNow, .instanceMethod yX6_hitsNow, .selects yX6_hitsNow.cls yX6_hitsNow yX6_hitsNow, .initialized yX6_hitsNow.cls, .code yX6_hitsNow cX6_hitsNow 1 (some .int)] [251, 253, 0, 11, 254] rfl (by decide +kernel), ⟨by decide +kernel, by decide +kernel, by decide +kernel⟩⟩
set_option maxRecDepth 100000 in
theorem ckX6_126 : CkV RX6 126 yX4_soundingTicks cX4_soundingTicks 3 (some .int) 0 := ⟨in_p [.methodLink RX6 126 yX4_soundingTicks, .instanceMethod yX4_soundingTicks, .selects yX4_soundingTicks.cls yX4_soundingTicks yX4_soundingTicks, .initialized yX4_soundingTicks.cls, .code yX4_soundingTicks cX4_soundingTicks 3 (some .int)] [235, 236, 237, 12, 238] rfl (by decide +kernel), ⟨by decide +kernel, by decide +kernel, by decide +kernel⟩⟩
set_option maxRecDepth 100000 in
theorem ckX6_129 : CkV RX6 129 yX3_has cX3_has 2 (some .boolean) 1 := ⟨in_p [.methodLink RX6 129 yX3_has, .instanceMethod yX3_has, .selects yX3_has.cls yX3_has yX3_has, .initialized yX3_has.cls, .code yX3_has cX3_has 2 (some .boolean)] [410, 220, 221, 13, 222] rfl (by decide +kernel), ⟨by decide +kernel, by decide +kernel, by decide +kernel⟩⟩
set_option maxRecDepth 100000 in
theorem ckX6_132 : CkV RX6 132 yX4_voiceAsWanted cX4_voiceAsWanted 5 none 2 := ⟨in_p [.methodLink RX6 132 yX4_voiceAsWanted, .instanceMethod yX4_voiceAsWanted, .selects yX4_voiceAsWanted.cls yX4_voiceAsWanted yX4_voiceAsWanted, .initialized yX4_voiceAsWanted.cls, .code yX4_voiceAsWanted cX4_voiceAsWanted 5 none] [546, 547, 548, 12, 549] rfl (by decide +kernel), ⟨by decide +kernel, by decide +kernel, by decide +kernel⟩⟩
set_option maxRecDepth 100000 in
theorem ckX6_145 : CkV RX6 145 yX0_size cX0_size 1 (some .int) 0 := ⟨in_p [.methodLink RX6 145 yX0_size, .instanceMethod yX0_size, .selects yX0_size.cls yX0_size yX0_size, .initialized yX0_size.cls, .code yX0_size cX0_size 1 (some .int)] [364, 365, 366, 15, 367] rfl (by decide +kernel), ⟨by decide +kernel, by decide +kernel, by decide +kernel⟩⟩
set_option maxRecDepth 100000 in
theorem ckX6_146 : CkV RX6 146 yX0_takeBackInto cX0_takeBackInto 2 (some .int) 1 := ⟨in_p [.methodLink RX6 146 yX0_takeBackInto, .instanceMethod yX0_takeBackInto, .selects yX0_takeBackInto.cls yX0_takeBackInto yX0_takeBackInto, .initialized yX0_takeBackInto.cls, .code yX0_takeBackInto cX0_takeBackInto 2 (some .int)] [575, 576, 577, 15, 578] rfl (by decide +kernel), ⟨by decide +kernel, by decide +kernel, by decide +kernel⟩⟩
set_option maxRecDepth 100000 in
theorem foX6_50 : Fok RX6 50 6 7 true := ⟨RX6, TX6, 8, rfl, by decide, in_u6, in_p [Cond.fieldLink RX6 50 RX6 "judge" "LSungSlides$Judge;"] [175] (by decide +kernel) (by decide +kernel) _ List.mem_cons_self, rfl, rfl, by decide⟩
set_option maxRecDepth 100000 in
theorem ckX6_152 : CkV RX6 152 yX1_judge cX1_judge 3 none 1 := ⟨in_p [.methodLink RX6 152 yX1_judge, .instanceMethod yX1_judge, .selects yX1_judge.cls yX1_judge yX1_judge, .initialized yX1_judge.cls, .code yX1_judge cX1_judge 3 none] [255, 256, 257, 18, 258] rfl (by decide +kernel), ⟨by decide +kernel, by decide +kernel, by decide +kernel⟩⟩
set_option maxRecDepth 100000 in
theorem ckX6_154 : CkV RX6 154 yX3_beginningOf cX3_beginningOf 2 (some .int) 1 := ⟨in_p [.methodLink RX6 154 yX3_beginningOf, .instanceMethod yX3_beginningOf, .selects yX3_beginningOf.cls yX3_beginningOf yX3_beginningOf, .initialized yX3_beginningOf.cls, .code yX3_beginningOf cX3_beginningOf 2 (some .int)] [411, 228, 229, 13, 230] rfl (by decide +kernel), ⟨by decide +kernel, by decide +kernel, by decide +kernel⟩⟩
set_option maxRecDepth 100000 in
theorem ckX6_157 : CkV RX6 157 yX3_lengthOf cX3_lengthOf 2 (some .int) 1 := ⟨in_p [.methodLink RX6 157 yX3_lengthOf, .instanceMethod yX3_lengthOf, .selects yX3_lengthOf.cls yX3_lengthOf yX3_lengthOf, .initialized yX3_lengthOf.cls, .code yX3_lengthOf cX3_lengthOf 2 (some .int)] [412, 232, 233, 13, 234] rfl (by decide +kernel), ⟨by decide +kernel, by decide +kernel, by decide +kernel⟩⟩
set_option maxRecDepth 100000 in
theorem ckX6_160 : CkV RX6 160 yX3_pitchOf cX3_pitchOf 2 (some .int) 1 := ⟨in_p [.methodLink RX6 160 yX3_pitchOf, .instanceMethod yX3_pitchOf, .selects yX3_pitchOf.cls yX3_pitchOf yX3_pitchOf, .initialized yX3_pitchOf.cls, .code yX3_pitchOf cX3_pitchOf 2 (some .int)] [413, 274, 275, 13, 276] rfl (by decide +kernel), ⟨by decide +kernel, by decide +kernel, by decide +kernel⟩⟩
set_option maxRecDepth 100000 in
theorem ckX6_163 : CkV RX6 163 yX3_endPitchOf cX3_endPitchOf 2 (some .int) 1 := ⟨in_p [.methodLink RX6 163 yX3_endPitchOf, .instanceMethod yX3_endPitchOf, .selects yX3_endPitchOf.cls yX3_endPitchOf yX3_endPitchOf, .initialized yX3_endPitchOf.cls, .code yX3_endPitchOf cX3_endPitchOf 2 (some .int)] [414, 278, 279, 13, 280] rfl (by decide +kernel), ⟨by decide +kernel, by decide +kernel, by decide +kernel⟩⟩
set_option maxRecDepth 100000 in
theorem ckX6_166 : CkV RX6 166 yX3_phraseOf cX3_phraseOf 2 (some .int) 1 := ⟨in_p [.methodLink RX6 166 yX3_phraseOf, .instanceMethod yX3_phraseOf, .selects yX3_phraseOf.cls yX3_phraseOf yX3_phraseOf, .initialized yX3_phraseOf.cls, .code yX3_phraseOf cX3_phraseOf 2 (some .int)] [415, 216, 217, 13, 218] rfl (by decide +kernel), ⟨by decide +kernel, by decide +kernel, by decide +kernel⟩⟩
set_option maxRecDepth 100000 in
theorem ckX6_169 : CkV RX6 169 yX3_barLinesOf cX3_barLinesOf 5 (some .int) 2 := ⟨in_p [.methodLink RX6 169 yX3_barLinesOf, .instanceMethod yX3_barLinesOf, .selects yX3_barLinesOf.cls yX3_barLinesOf yX3_barLinesOf, .initialized yX3_barLinesOf.cls, .code yX3_barLinesOf cX3_barLinesOf 5 (some .int)] [416, 361, 362, 13, 363] rfl (by decide +kernel), ⟨by decide +kernel, by decide +kernel, by decide +kernel⟩⟩
set_option maxRecDepth 100000 in
theorem ckX6_173 : CkV RX6 173 yX1_matchesOf cX1_matchesOf 2 (some .int) 1 := ⟨in_p [.methodLink RX6 173 yX1_matchesOf, .instanceMethod yX1_matchesOf, .selects yX1_matchesOf.cls yX1_matchesOf yX1_matchesOf, .initialized yX1_matchesOf.cls, .code yX1_matchesOf cX1_matchesOf 2 (some .int)] [417, 304, 305, 18, 306] rfl (by decide +kernel), ⟨by decide +kernel, by decide +kernel, by decide +kernel⟩⟩
set_option maxRecDepth 100000 in
theorem ckX6_176 : CkV RX6 176 yX1_shareOf cX1_shareOf 2 (some .int) 1 := ⟨in_p [.methodLink RX6 176 yX1_shareOf, .instanceMethod yX1_shareOf, .selects yX1_shareOf.cls yX1_shareOf yX1_shareOf, .initialized yX1_shareOf.cls, .code yX1_shareOf cX1_shareOf 2 (some .int)] [418, 315, 316, 18, 317] rfl (by decide +kernel), ⟨by decide +kernel, by decide +kernel, by decide +kernel⟩⟩
set_option maxRecDepth 100000 in
theorem ckX6_179 : CkV RX6 179 yX1_onsetOf cX1_onsetOf 2 (some .int) 1 := ⟨in_p [.methodLink RX6 179 yX1_onsetOf, .instanceMethod yX1_onsetOf, .selects yX1_onsetOf.cls yX1_onsetOf yX1_onsetOf, .initialized yX1_onsetOf.cls, .code yX1_onsetOf cX1_onsetOf 2 (some .int)] [419, 311, 312, 18, 313] rfl (by decide +kernel), ⟨by decide +kernel, by decide +kernel, by decide +kernel⟩⟩
set_option maxRecDepth 100000 in
theorem ckX6_182 : CkV RX6 182 yX1_reasonOf cX1_reasonOf 2 (some .int) 1 := ⟨in_p [.methodLink RX6 182 yX1_reasonOf, .instanceMethod yX1_reasonOf, .selects yX1_reasonOf.cls yX1_reasonOf yX1_reasonOf, .initialized yX1_reasonOf.cls, .code yX1_reasonOf cX1_reasonOf 2 (some .int)] [420, 421, 422, 18, 423] rfl (by decide +kernel), ⟨by decide +kernel, by decide +kernel, by decide +kernel⟩⟩
set_option maxRecDepth 100000 in
theorem ckX6_185 : CkV RX6 185 yX1_pointsOf cX1_pointsOf 2 (some .int) 1 := ⟨in_p [.methodLink RX6 185 yX1_pointsOf, .instanceMethod yX1_pointsOf, .selects yX1_pointsOf.cls yX1_pointsOf yX1_pointsOf, .initialized yX1_pointsOf.cls, .code yX1_pointsOf cX1_pointsOf 2 (some .int)] [424, 425, 426, 18, 427] rfl (by decide +kernel), ⟨by decide +kernel, by decide +kernel, by decide +kernel⟩⟩
set_option maxRecDepth 100000 in
theorem ckX6_188 : CkV RX6 188 yX1_rowAheadOf cX1_rowAheadOf 2 (some .int) 1 := ⟨in_p [.methodLink RX6 188 yX1_rowAheadOf, .instanceMethod yX1_rowAheadOf, .selects yX1_rowAheadOf.cls yX1_rowAheadOf yX1_rowAheadOf, .initialized yX1_rowAheadOf.cls, .code yX1_rowAheadOf cX1_rowAheadOf 2 (some .int)] [428, 429, 430, 18, 431] rfl (by decide +kernel), ⟨by decide +kernel, by decide +kernel, by decide +kernel⟩⟩
set_option maxRecDepth 100000 in
theorem ckX6_191 : CkV RX6 191 yX3_wantedOf cX3_wantedOf 5 (some .int) 2 := ⟨in_p [.methodLink RX6 191 yX3_wantedOf, .instanceMethod yX3_wantedOf, .selects yX3_wantedOf.cls yX3_wantedOf yX3_wantedOf, .initialized yX3_wantedOf.cls, .code yX3_wantedOf cX3_wantedOf 5 (some .int)] [445, 270, 271, 13, 272] rfl (by decide +kernel), ⟨by decide +kernel, by decide +kernel, by decide +kernel⟩⟩
set_option maxRecDepth 100000 in
theorem ckX6_194 : CkV RX6 194 yX4_sungAt cX4_sungAt 2 (some .int) 1 := ⟨in_p [.methodLink RX6 194 yX4_sungAt, .instanceMethod yX4_sungAt, .selects yX4_sungAt.cls yX4_sungAt yX4_sungAt, .initialized yX4_sungAt.cls, .code yX4_sungAt cX4_sungAt 2 (some .int)] [450, 240, 241, 12, 242] rfl (by decide +kernel), ⟨by decide +kernel, by decide +kernel, by decide +kernel⟩⟩
set_option maxRecDepth 100000 in
theorem maX6_197 : ∀ w ∈ ([.methodLink RX6 197 Lib.Math.min.name, .static Lib.Math.min.name, .initialized "java/lang/Math", .code Lib.Math.min.name Lib.Math.min.code 2 (some .int)] : List Cond), w ∈ gtb := in_p [.methodLink RX6 197 Lib.Math.min.name, .static Lib.Math.min.name, .initialized "java/lang/Math", .code Lib.Math.min.name Lib.Math.min.code 2 (some .int)] [439, 290, 19, 291] rfl (by decide +kernel)
set_option maxRecDepth 100000 in
theorem maX6_202 : ∀ w ∈ ([.methodLink RX6 202 Lib.Math.max.name, .static Lib.Math.max.name, .initialized "java/lang/Math", .code Lib.Math.max.name Lib.Math.max.code 2 (some .int)] : List Cond), w ∈ gtb := in_p [.methodLink RX6 202 Lib.Math.max.name, .static Lib.Math.max.name, .initialized "java/lang/Math", .code Lib.Math.max.name Lib.Math.max.code 2 (some .int)] [440, 338, 19, 339] rfl (by decide +kernel)
set_option maxRecDepth 100000 in
theorem ckX6_205 : CkV RX6 205 yX3_phraseCount cX3_phraseCount 1 (some .int) 0 := ⟨in_p [.methodLink RX6 205 yX3_phraseCount, .instanceMethod yX3_phraseCount, .selects yX3_phraseCount.cls yX3_phraseCount yX3_phraseCount, .initialized yX3_phraseCount.cls, .code yX3_phraseCount cX3_phraseCount 1 (some .int)] [211, 212, 213, 13, 214] rfl (by decide +kernel), ⟨by decide +kernel, by decide +kernel, by decide +kernel⟩⟩
set_option maxRecDepth 100000 in
theorem ckX6_208 : CkV RX6 208 yX3_firstOfPhrase cX3_firstOfPhrase 3 (some .int) 1 := ⟨in_p [.methodLink RX6 208 yX3_firstOfPhrase, .instanceMethod yX3_firstOfPhrase, .selects yX3_firstOfPhrase.cls yX3_firstOfPhrase yX3_firstOfPhrase, .initialized yX3_firstOfPhrase.cls, .code yX3_firstOfPhrase cX3_firstOfPhrase 3 (some .int)] [463, 464, 465, 13, 466] rfl (by decide +kernel), ⟨by decide +kernel, by decide +kernel, by decide +kernel⟩⟩
set_option maxRecDepth 100000 in
theorem ckX6_211 : CkV RX6 211 yX3_sizeOfPhrase cX3_sizeOfPhrase 4 (some .int) 1 := ⟨in_p [.methodLink RX6 211 yX3_sizeOfPhrase, .instanceMethod yX3_sizeOfPhrase, .selects yX3_sizeOfPhrase.cls yX3_sizeOfPhrase yX3_sizeOfPhrase, .initialized yX3_sizeOfPhrase.cls, .code yX3_sizeOfPhrase cX3_sizeOfPhrase 4 (some .int)] [467, 342, 343, 13, 344] rfl (by decide +kernel), ⟨by decide +kernel, by decide +kernel, by decide +kernel⟩⟩
set_option maxRecDepth 100000 in
theorem ckX6_214 : CkV RX6 214 yX1_phraseHitsOf cX1_phraseHitsOf 2 (some .int) 1 := ⟨in_p [.methodLink RX6 214 yX1_phraseHitsOf, .instanceMethod yX1_phraseHitsOf, .selects yX1_phraseHitsOf.cls yX1_phraseHitsOf yX1_phraseHitsOf, .initialized yX1_phraseHitsOf.cls, .code yX1_phraseHitsOf cX1_phraseHitsOf 2 (some .int)] [468, 469, 470, 18, 471] rfl (by decide +kernel), ⟨by decide +kernel, by decide +kernel, by decide +kernel⟩⟩
set_option maxRecDepth 100000 in
theorem ckX6_217 : CkV RX6 217 yX1_phrasePointsOf cX1_phrasePointsOf 2 (some .int) 1 := ⟨in_p [.methodLink RX6 217 yX1_phrasePointsOf, .instanceMethod yX1_phrasePointsOf, .selects yX1_phrasePointsOf.cls yX1_phrasePointsOf yX1_phrasePointsOf, .initialized yX1_phrasePointsOf.cls, .code yX1_phrasePointsOf cX1_phrasePointsOf 2 (some .int)] [455, 456, 457, 18, 458] rfl (by decide +kernel), ⟨by decide +kernel, by decide +kernel, by decide +kernel⟩⟩
set_option maxRecDepth 100000 in
theorem ckX6_220 : CkV RX6 220 yX1_longestRowOf cX1_longestRowOf 2 (some .int) 1 := ⟨in_p [.methodLink RX6 220 yX1_longestRowOf, .instanceMethod yX1_longestRowOf, .selects yX1_longestRowOf.cls yX1_longestRowOf yX1_longestRowOf, .initialized yX1_longestRowOf.cls, .code yX1_longestRowOf cX1_longestRowOf 2 (some .int)] [472, 473, 474, 18, 475] rfl (by decide +kernel), ⟨by decide +kernel, by decide +kernel, by decide +kernel⟩⟩
set_option maxRecDepth 100000 in
theorem ckX6_223 : CkV RX6 223 yX3_ticks cX3_ticks 1 (some .int) 0 := ⟨in_p [.methodLink RX6 223 yX3_ticks, .instanceMethod yX3_ticks, .selects yX3_ticks.cls yX3_ticks yX3_ticks, .initialized yX3_ticks.cls, .code yX3_ticks cX3_ticks 1 (some .int)] [223, 224, 225, 13, 226] rfl (by decide +kernel), ⟨by decide +kernel, by decide +kernel, by decide +kernel⟩⟩
set_option maxRecDepth 100000 in
theorem ckX6_226 : CkV RX6 226 yX4_onsets cX4_onsets 3 (some .int) 0 := ⟨in_p [.methodLink RX6 226 yX4_onsets, .instanceMethod yX4_onsets, .selects yX4_onsets.cls yX4_onsets yX4_onsets, .initialized yX4_onsets.cls, .code yX4_onsets cX4_onsets 3 (some .int)] [243, 244, 245, 12, 246] rfl (by decide +kernel), ⟨by decide +kernel, by decide +kernel, by decide +kernel⟩⟩
set_option maxRecDepth 100000 in
theorem ckX6_229 : CkV RX6 229 yX6_pointsOf cX6_pointsOf 2 (some .int) 1 := ⟨in_p [.methodLink RX6 229 yX6_pointsOf, .instanceMethod yX6_pointsOf, .selects yX6_pointsOf.cls yX6_pointsOf yX6_pointsOf, .initialized yX6_pointsOf.cls, .code yX6_pointsOf cX6_pointsOf 2 (some .int)] [348, 350, 6, 11, 351] rfl (by decide +kernel), ⟨by decide +kernel, by decide +kernel, by decide +kernel⟩⟩
set_option maxRecDepth 100000 in
theorem ckX6_231 : CkV RX6 231 yX6_mostPoints cX6_mostPoints 1 (some .int) 0 := ⟨in_p [.methodLink RX6 231 yX6_mostPoints, .instanceMethod yX6_mostPoints, .selects yX6_mostPoints.cls yX6_mostPoints yX6_mostPoints, .initialized yX6_mostPoints.cls, .code yX6_mostPoints cX6_mostPoints 1 (some .int)] [352, 354, 7, 11, 355] rfl (by decide +kernel), ⟨by decide +kernel, by decide +kernel, by decide +kernel⟩⟩
set_option maxRecDepth 100000 in
theorem foX6_36 : Fok RX6 36 6 5 true := ⟨RX6, TX6, 8, rfl, by decide, in_u6, in_p [Cond.fieldLink RX6 36 RX6 "text" "LSungSlides$Text;"] [173] (by decide +kernel) (by decide +kernel) _ List.mem_cons_self, rfl, rfl, by decide⟩
set_option maxRecDepth 100000 in
theorem ckX6_234 : CkV RX6 234 yX5_size cX5_size 1 (some .int) 0 := ⟨in_p [.methodLink RX6 234 yX5_size, .instanceMethod yX5_size, .selects yX5_size.cls yX5_size yX5_size, .initialized yX5_size.cls, .code yX5_size cX5_size 1 (some .int)] [368, 369, 370, 16, 371] rfl (by decide +kernel), ⟨by decide +kernel, by decide +kernel, by decide +kernel⟩⟩
set_option maxRecDepth 100000 in
theorem foX6_16 : Fok RX6 16 6 1 true := ⟨RX6, TX6, 8, rfl, by decide, in_u6, in_p [Cond.fieldLink RX6 16 RX6 "would" "LSungSlides$State;"] [169] (by decide +kernel) (by decide +kernel) _ List.mem_cons_self, rfl, rfl, by decide⟩
set_option maxRecDepth 100000 in
theorem ckX6_150 : CkV RX6 150 yX4_copyFrom cX4_copyFrom 2 none 1 := ⟨in_p [.methodLink RX6 150 yX4_copyFrom, .instanceMethod yX4_copyFrom, .selects yX4_copyFrom.cls yX4_copyFrom yX4_copyFrom, .initialized yX4_copyFrom.cls, .code yX4_copyFrom cX4_copyFrom 2 none] [376, 377, 378, 12, 379] rfl (by decide +kernel), ⟨by decide +kernel, by decide +kernel, by decide +kernel⟩⟩
set_option maxRecDepth 100000 in
theorem ckX6_235 : CkV RX6 235 yX6_pointsIfShifted cX6_pointsIfShifted 3 (some .int) 2 := ⟨in_p [.methodLink RX6 235 yX6_pointsIfShifted, .instanceMethod yX6_pointsIfShifted, .selects yX6_pointsIfShifted.cls yX6_pointsIfShifted yX6_pointsIfShifted, .initialized yX6_pointsIfShifted.cls, .code yX6_pointsIfShifted cX6_pointsIfShifted 3 (some .int)] [385, 387, 8, 11, 388] rfl (by decide +kernel), ⟨by decide +kernel, by decide +kernel, by decide +kernel⟩⟩
set_option maxRecDepth 100000 in
theorem gsX6_238 : Cond.fieldLink RX6 238 "SungSlides" (stN 1) "[I" ∈ gtb := in_p [Cond.fieldLink RX6 238 "SungSlides" (stN 1) "[I"] [491] rfl (by decide +kernel) _ List.mem_cons_self
set_option maxRecDepth 100000 in
theorem gsX6_242 : Cond.fieldLink RX6 242 "SungSlides" (stN 2) "[I" ∈ gtb := in_p [Cond.fieldLink RX6 242 "SungSlides" (stN 2) "[I"] [493] rfl (by decide +kernel) _ List.mem_cons_self
set_option maxRecDepth 100000 in
theorem foX6_245 : Fok RX6 245 1 10 false := ⟨RX1, TX1, 12, rfl, by decide, in_u1, in_p [Cond.fieldLink RX6 245 RX1 "hits" "I"] [140] (by decide +kernel) (by decide +kernel) _ List.mem_cons_self, rfl, rfl, by decide⟩
set_option maxRecDepth 100000 in
theorem foX6_248 : Fok RX6 248 1 11 false := ⟨RX1, TX1, 12, rfl, by decide, in_u1, in_p [Cond.fieldLink RX6 248 RX1 "points" "I"] [142] (by decide +kernel) (by decide +kernel) _ List.mem_cons_self, rfl, rfl, by decide⟩
set_option maxRecDepth 100000 in
theorem ckX6_251 : CkV RX6 251 yX1_judgePerfect cX1_judgePerfect 4 none 1 := ⟨in_p [.methodLink RX6 251 yX1_judgePerfect, .instanceMethod yX1_judgePerfect, .selects yX1_judgePerfect.cls yX1_judgePerfect yX1_judgePerfect, .initialized yX1_judgePerfect.cls, .code yX1_judgePerfect cX1_judgePerfect 4 none] [356, 357, 358, 18, 359] rfl (by decide +kernel), ⟨by decide +kernel, by decide +kernel, by decide +kernel⟩⟩
set_option maxRecDepth 100000 in
theorem ckX6_254 : CkV RX6 254 yX4_voiceShifted cX4_voiceShifted 6 none 3 := ⟨in_p [.methodLink RX6 254 yX4_voiceShifted, .instanceMethod yX4_voiceShifted, .selects yX4_voiceShifted.cls yX4_voiceShifted yX4_voiceShifted, .initialized yX4_voiceShifted.cls, .code yX4_voiceShifted cX4_voiceShifted 6 none] [389, 390, 391, 12, 392] rfl (by decide +kernel), ⟨by decide +kernel, by decide +kernel, by decide +kernel⟩⟩
set_option maxRecDepth 100000 in
theorem oiX3_3 : ∀ w ∈ ([.methodLink RX3 3 Lib.objectInit, .instanceMethod Lib.objectInit, .code Lib.objectInit ⟨#[0xb1]⟩ 1 none] : List Cond), w ∈ gtb := in_p [.methodLink RX3 3 Lib.objectInit, .instanceMethod Lib.objectInit, .code Lib.objectInit ⟨#[0xb1]⟩ 1 none] [39, 26, 27] rfl (by decide +kernel)
set_option maxRecDepth 100000 in
theorem ac_int : Cond.arrayClass .int ∈ gtb := in_p [Cond.arrayClass .int] [59] rfl (by decide +kernel) _ List.mem_cons_self
set_option maxRecDepth 100000 in
theorem poX3_9 : Pok RX3 9 3 0 true (.array .int) true := ⟨RX3, TX3, 6, tyX3, rfl, by decide, in_u3, tyX3_ok, nmX3, in_p [Cond.fieldLink RX3 9 RX3 "beginnings" "[I"] [40] (by decide +kernel) (by decide +kernel) _ List.mem_cons_self, rfl, rfl, by decide +kernel, rfl, by decide, fun _ => rfl⟩
set_option maxRecDepth 100000 in
theorem poX3_15 : Pok RX3 15 3 1 true (.array .int) true := ⟨RX3, TX3, 6, tyX3, rfl, by decide, in_u3, tyX3_ok, nmX3, in_p [Cond.fieldLink RX3 15 RX3 "lengths" "[I"] [41] (by decide +kernel) (by decide +kernel) _ List.mem_cons_self, rfl, rfl, by decide +kernel, rfl, by decide, fun _ => rfl⟩
set_option maxRecDepth 100000 in
theorem poX3_18 : Pok RX3 18 3 2 true (.array .int) true := ⟨RX3, TX3, 6, tyX3, rfl, by decide, in_u3, tyX3_ok, nmX3, in_p [Cond.fieldLink RX3 18 RX3 "pitches" "[I"] [42] (by decide +kernel) (by decide +kernel) _ List.mem_cons_self, rfl, rfl, by decide +kernel, rfl, by decide, fun _ => rfl⟩
set_option maxRecDepth 100000 in
theorem poX3_21 : Pok RX3 21 3 3 true (.array .int) true := ⟨RX3, TX3, 6, tyX3, rfl, by decide, in_u3, tyX3_ok, nmX3, in_p [Cond.fieldLink RX3 21 RX3 "endPitches" "[I"] [43] (by decide +kernel) (by decide +kernel) _ List.mem_cons_self, rfl, rfl, by decide +kernel, rfl, by decide, fun _ => rfl⟩
set_option maxRecDepth 100000 in
theorem poX3_24 : Pok RX3 24 3 4 true (.array .int) true := ⟨RX3, TX3, 6, tyX3, rfl, by decide, in_u3, tyX3_ok, nmX3, in_p [Cond.fieldLink RX3 24 RX3 "phrases" "[I"] [44] (by decide +kernel) (by decide +kernel) _ List.mem_cons_self, rfl, rfl, by decide +kernel, rfl, by decide, fun _ => rfl⟩
set_option maxRecDepth 100000 in
theorem poX3_27 : Pok RX3 27 3 5 false .int false := ⟨RX3, TX3, 6, tyX3, rfl, by decide, in_u3, tyX3_ok, nmX3, in_p [Cond.fieldLink RX3 27 RX3 "count" "I"] [45] (by decide +kernel) (by decide +kernel) _ List.mem_cons_self, rfl, rfl, by decide +kernel, rfl, by decide, fun _ => rfl⟩
set_option maxRecDepth 100000 in
theorem foX3_27 : Fok RX3 27 3 5 false := ⟨RX3, TX3, 6, rfl, by decide, in_u3, in_p [Cond.fieldLink RX3 27 RX3 "count" "I"] [45] (by decide +kernel) (by decide +kernel) _ List.mem_cons_self, rfl, rfl, by decide⟩
set_option maxRecDepth 100000 in
theorem ckX3_31 : CkV RX3 31 yX3_has cX3_has 2 (some .boolean) 1 := ⟨in_p [.methodLink RX3 31 yX3_has, .instanceMethod yX3_has, .selects yX3_has.cls yX3_has yX3_has, .initialized yX3_has.cls, .code yX3_has cX3_has 2 (some .boolean)] [219, 220, 221, 13, 222] rfl (by decide +kernel), ⟨by decide +kernel, by decide +kernel, by decide +kernel⟩⟩
set_option maxRecDepth 100000 in
theorem foX3_9 : Fok RX3 9 3 0 true := ⟨RX3, TX3, 6, rfl, by decide, in_u3, in_p [Cond.fieldLink RX3 9 RX3 "beginnings" "[I"] [40] (by decide +kernel) (by decide +kernel) _ List.mem_cons_self, rfl, rfl, by decide⟩
set_option maxRecDepth 100000 in
theorem foX3_15 : Fok RX3 15 3 1 true := ⟨RX3, TX3, 6, rfl, by decide, in_u3, in_p [Cond.fieldLink RX3 15 RX3 "lengths" "[I"] [41] (by decide +kernel) (by decide +kernel) _ List.mem_cons_self, rfl, rfl, by decide⟩
set_option maxRecDepth 100000 in
theorem foX3_18 : Fok RX3 18 3 2 true := ⟨RX3, TX3, 6, rfl, by decide, in_u3, in_p [Cond.fieldLink RX3 18 RX3 "pitches" "[I"] [42] (by decide +kernel) (by decide +kernel) _ List.mem_cons_self, rfl, rfl, by decide⟩
set_option maxRecDepth 100000 in
theorem foX3_21 : Fok RX3 21 3 3 true := ⟨RX3, TX3, 6, rfl, by decide, in_u3, in_p [Cond.fieldLink RX3 21 RX3 "endPitches" "[I"] [43] (by decide +kernel) (by decide +kernel) _ List.mem_cons_self, rfl, rfl, by decide⟩
set_option maxRecDepth 100000 in
theorem foX3_24 : Fok RX3 24 3 4 true := ⟨RX3, TX3, 6, rfl, by decide, in_u3, in_p [Cond.fieldLink RX3 24 RX3 "phrases" "[I"] [44] (by decide +kernel) (by decide +kernel) _ List.mem_cons_self, rfl, rfl, by decide⟩
set_option maxRecDepth 100000 in
theorem ckX3_35 : CkV RX3 35 yX3_beginningOf cX3_beginningOf 2 (some .int) 1 := ⟨in_p [.methodLink RX3 35 yX3_beginningOf, .instanceMethod yX3_beginningOf, .selects yX3_beginningOf.cls yX3_beginningOf yX3_beginningOf, .initialized yX3_beginningOf.cls, .code yX3_beginningOf cX3_beginningOf 2 (some .int)] [227, 228, 229, 13, 230] rfl (by decide +kernel), ⟨by decide +kernel, by decide +kernel, by decide +kernel⟩⟩
set_option maxRecDepth 100000 in
theorem ckX3_39 : CkV RX3 39 yX3_lengthOf cX3_lengthOf 2 (some .int) 1 := ⟨in_p [.methodLink RX3 39 yX3_lengthOf, .instanceMethod yX3_lengthOf, .selects yX3_lengthOf.cls yX3_lengthOf yX3_lengthOf, .initialized yX3_lengthOf.cls, .code yX3_lengthOf cX3_lengthOf 2 (some .int)] [231, 232, 233, 13, 234] rfl (by decide +kernel), ⟨by decide +kernel, by decide +kernel, by decide +kernel⟩⟩
set_option maxRecDepth 100000 in
theorem ckX3_42 : CkV RX3 42 yX3_phraseOf cX3_phraseOf 2 (some .int) 1 := ⟨in_p [.methodLink RX3 42 yX3_phraseOf, .instanceMethod yX3_phraseOf, .selects yX3_phraseOf.cls yX3_phraseOf yX3_phraseOf, .initialized yX3_phraseOf.cls, .code yX3_phraseOf cX3_phraseOf 2 (some .int)] [215, 216, 217, 13, 218] rfl (by decide +kernel), ⟨by decide +kernel, by decide +kernel, by decide +kernel⟩⟩
set_option maxRecDepth 100000 in
theorem ckX3_45 : CkV RX3 45 yX3_pitchOf cX3_pitchOf 2 (some .int) 1 := ⟨in_p [.methodLink RX3 45 yX3_pitchOf, .instanceMethod yX3_pitchOf, .selects yX3_pitchOf.cls yX3_pitchOf yX3_pitchOf, .initialized yX3_pitchOf.cls, .code yX3_pitchOf cX3_pitchOf 2 (some .int)] [273, 274, 275, 13, 276] rfl (by decide +kernel), ⟨by decide +kernel, by decide +kernel, by decide +kernel⟩⟩
set_option maxRecDepth 100000 in
theorem ckX3_48 : CkV RX3 48 yX3_endPitchOf cX3_endPitchOf 2 (some .int) 1 := ⟨in_p [.methodLink RX3 48 yX3_endPitchOf, .instanceMethod yX3_endPitchOf, .selects yX3_endPitchOf.cls yX3_endPitchOf yX3_endPitchOf, .initialized yX3_endPitchOf.cls, .code yX3_endPitchOf cX3_endPitchOf 2 (some .int)] [277, 278, 279, 13, 280] rfl (by decide +kernel), ⟨by decide +kernel, by decide +kernel, by decide +kernel⟩⟩
set_option maxRecDepth 100000 in
theorem ckX3_51 : CkV RX3 51 yX3_ticks cX3_ticks 1 (some .int) 0 := ⟨in_p [.methodLink RX3 51 yX3_ticks, .instanceMethod yX3_ticks, .selects yX3_ticks.cls yX3_ticks yX3_ticks, .initialized yX3_ticks.cls, .code yX3_ticks cX3_ticks 1 (some .int)] [528, 224, 225, 13, 226] rfl (by decide +kernel), ⟨by decide +kernel, by decide +kernel, by decide +kernel⟩⟩
set_option maxRecDepth 100000 in
theorem ckX3_55 : CkV RX3 55 yX3_phraseCount cX3_phraseCount 1 (some .int) 0 := ⟨in_p [.methodLink RX3 55 yX3_phraseCount, .instanceMethod yX3_phraseCount, .selects yX3_phraseCount.cls yX3_phraseCount yX3_phraseCount, .initialized yX3_phraseCount.cls, .code yX3_phraseCount cX3_phraseCount 1 (some .int)] [533, 212, 213, 13, 214] rfl (by decide +kernel), ⟨by decide +kernel, by decide +kernel, by decide +kernel⟩⟩
set_option maxRecDepth 100000 in
theorem coX3_58 : ∀ w ∈ ([.methodLink RX3 58 arraycopyName, .native arraycopyName, .static arraycopyName, .initialized "java/lang/System"] : List Cond), w ∈ gtb := in_p [.methodLink RX3 58 arraycopyName, .native arraycopyName, .static arraycopyName, .initialized "java/lang/System"] [384, 64, 63, 14] rfl (by decide +kernel)
set_option maxRecDepth 100000 in
theorem oiX4_3 : ∀ w ∈ ([.methodLink RX4 3 Lib.objectInit, .instanceMethod Lib.objectInit, .code Lib.objectInit ⟨#[0xb1]⟩ 1 none] : List Cond), w ∈ gtb := in_p [.methodLink RX4 3 Lib.objectInit, .instanceMethod Lib.objectInit, .code Lib.objectInit ⟨#[0xb1]⟩ 1 none] [33, 26, 27] rfl (by decide +kernel)
set_option maxRecDepth 100000 in
theorem ckX4_11 : CkIN RX4 11 "SungSlides" yX3_init cX3_init 1 0 := ⟨in_p [.instanceMethod yX3_init, .initialized yX3_init.cls, .code yX3_init cX3_init 1 none] [37, 13, 38] rfl (by decide +kernel), rfl, ⟨by decide +kernel, by decide +kernel, by decide +kernel⟩, in_n _ 36 rfl rfl⟩
set_option maxRecDepth 100000 in
theorem noX4_9 : Nok RX4 9 3 := ⟨RX3, TX3, 6, tyX3, rfl, in_u3, tyX3_ok, in_p [Cond.classLink RX4 9 RX3] [34] rfl (by decide +kernel) _ List.mem_cons_self, in_p [Cond.instantiable RX3 6] [35] rfl (by decide +kernel) _ List.mem_cons_self, in_p [Cond.initialized RX3] [13] rfl (by decide +kernel) _ List.mem_cons_self, by decide, rfl, by decide +kernel⟩
set_option maxRecDepth 100000 in
theorem poX4_12 : Pok RX4 12 4 0 true (.object "SungSlides$Song") true := ⟨RX4, TX4, 3, tyX4, rfl, by decide, in_u4, tyX4_ok, nmX4, in_p [Cond.fieldLink RX4 12 RX4 "song" "LSungSlides$Song;"] [65] (by decide +kernel) (by decide +kernel) _ List.mem_cons_self, rfl, rfl, by decide +kernel, rfl, by decide, fun _ => rfl⟩
set_option maxRecDepth 100000 in
theorem poX4_18 : Pok RX4 18 4 1 true (.array .int) true := ⟨RX4, TX4, 3, tyX4, rfl, by decide, in_u4, tyX4_ok, nmX4, in_p [Cond.fieldLink RX4 18 RX4 "settings" "[I"] [68] (by decide +kernel) (by decide +kernel) _ List.mem_cons_self, rfl, rfl, by decide +kernel, rfl, by decide, fun _ => rfl⟩
set_option maxRecDepth 100000 in
theorem poX4_22 : Pok RX4 22 4 2 true (.array .int) true := ⟨RX4, TX4, 3, tyX4, rfl, by decide, in_u4, tyX4_ok, nmX4, in_p [Cond.fieldLink RX4 22 RX4 "pitches" "[I"] [69] (by decide +kernel) (by decide +kernel) _ List.mem_cons_self, rfl, rfl, by decide +kernel, rfl, by decide, fun _ => rfl⟩
set_option maxRecDepth 100000 in
theorem foX4_18 : Fok RX4 18 4 1 true := ⟨RX4, TX4, 3, rfl, by decide, in_u4, in_p [Cond.fieldLink RX4 18 RX4 "settings" "[I"] [68] (by decide +kernel) (by decide +kernel) _ List.mem_cons_self, rfl, rfl, by decide⟩
set_option maxRecDepth 100000 in
theorem coX4_28 : ∀ w ∈ ([.methodLink RX4 28 arraycopyName, .native arraycopyName, .static arraycopyName, .initialized "java/lang/System"] : List Cond), w ∈ gtb := in_p [.methodLink RX4 28 arraycopyName, .native arraycopyName, .static arraycopyName, .initialized "java/lang/System"] [62, 64, 63, 14] rfl (by decide +kernel)
set_option maxRecDepth 100000 in
theorem gnX4_25 : Cond.fieldLinkNest RX4 25 "SungSlides" (stN 0) "[I" "SungSlides" ∈ nestW := in_n _ 60 rfl rfl
set_option maxRecDepth 100000 in
theorem foX4_22 : Fok RX4 22 4 2 true := ⟨RX4, TX4, 3, rfl, by decide, in_u4, in_p [Cond.fieldLink RX4 22 RX4 "pitches" "[I"] [69] (by decide +kernel) (by decide +kernel) _ List.mem_cons_self, rfl, rfl, by decide⟩
set_option maxRecDepth 100000 in
theorem foX4_12 : Fok RX4 12 4 0 true := ⟨RX4, TX4, 3, rfl, by decide, in_u4, in_p [Cond.fieldLink RX4 12 RX4 "song" "LSungSlides$Song;"] [65] (by decide +kernel) (by decide +kernel) _ List.mem_cons_self, rfl, rfl, by decide⟩
set_option maxRecDepth 100000 in
theorem ckX4_34 : CkV RX4 34 yX3_copyFrom cX3_copyFrom 2 none 1 := ⟨in_p [.methodLink RX4 34 yX3_copyFrom, .instanceMethod yX3_copyFrom, .selects yX3_copyFrom.cls yX3_copyFrom yX3_copyFrom, .initialized yX3_copyFrom.cls, .code yX3_copyFrom cX3_copyFrom 2 none] [380, 381, 382, 13, 383] rfl (by decide +kernel), ⟨by decide +kernel, by decide +kernel, by decide +kernel⟩⟩
set_option maxRecDepth 100000 in
theorem ckX4_38 : CkN RX4 38 "SungSlides" yX6_isWithin cX6_isWithin 3 (some .boolean) 3 := ⟨in_p [.static yX6_isWithin, .initialized yX6_isWithin.cls, .code yX6_isWithin cX6_isWithin 3 (some .boolean)] [198, 11, 199] rfl (by decide +kernel), ⟨by decide +kernel, by decide +kernel, by decide +kernel⟩, in_n _ 397 rfl rfl⟩
set_option maxRecDepth 100000 in
theorem ckX4_42 : CkV RX4 42 yX4_voiceAt cX4_voiceAt 3 none 2 := ⟨in_p [.methodLink RX4 42 yX4_voiceAt, .instanceMethod yX4_voiceAt, .selects yX4_voiceAt.cls yX4_voiceAt yX4_voiceAt, .initialized yX4_voiceAt.cls, .code yX4_voiceAt cX4_voiceAt 3 none] [393, 394, 395, 12, 396] rfl (by decide +kernel), ⟨by decide +kernel, by decide +kernel, by decide +kernel⟩⟩
set_option maxRecDepth 100000 in
theorem ckX4_46 : CkV RX4 46 yX3_beginningOf cX3_beginningOf 2 (some .int) 1 := ⟨in_p [.methodLink RX4 46 yX3_beginningOf, .instanceMethod yX3_beginningOf, .selects yX3_beginningOf.cls yX3_beginningOf yX3_beginningOf, .initialized yX3_beginningOf.cls, .code yX3_beginningOf cX3_beginningOf 2 (some .int)] [550, 228, 229, 13, 230] rfl (by decide +kernel), ⟨by decide +kernel, by decide +kernel, by decide +kernel⟩⟩
set_option maxRecDepth 100000 in
theorem ckX4_50 : CkV RX4 50 yX3_lengthOf cX3_lengthOf 2 (some .int) 1 := ⟨in_p [.methodLink RX4 50 yX3_lengthOf, .instanceMethod yX3_lengthOf, .selects yX3_lengthOf.cls yX3_lengthOf yX3_lengthOf, .initialized yX3_lengthOf.cls, .code yX3_lengthOf cX3_lengthOf 2 (some .int)] [551, 232, 233, 13, 234] rfl (by decide +kernel), ⟨by decide +kernel, by decide +kernel, by decide +kernel⟩⟩
set_option maxRecDepth 100000 in
theorem ckX4_53 : CkV RX4 53 yX3_wantedOf cX3_wantedOf 5 (some .int) 2 := ⟨in_p [.methodLink RX4 53 yX3_wantedOf, .instanceMethod yX3_wantedOf, .selects yX3_wantedOf.cls yX3_wantedOf yX3_wantedOf, .initialized yX3_wantedOf.cls, .code yX3_wantedOf cX3_wantedOf 5 (some .int)] [552, 270, 271, 13, 272] rfl (by decide +kernel), ⟨by decide +kernel, by decide +kernel, by decide +kernel⟩⟩
set_option maxRecDepth 100000 in
theorem ckX4_57 : CkV RX4 57 yX4_sungAt cX4_sungAt 2 (some .int) 1 := ⟨in_p [.methodLink RX4 57 yX4_sungAt, .instanceMethod yX4_sungAt, .selects yX4_sungAt.cls yX4_sungAt yX4_sungAt, .initialized yX4_sungAt.cls, .code yX4_sungAt cX4_sungAt 2 (some .int)] [239, 240, 241, 12, 242] rfl (by decide +kernel), ⟨by decide +kernel, by decide +kernel, by decide +kernel⟩⟩
set_option maxRecDepth 100000 in
theorem ckX4_60 : CkV RX4 60 yX4_isOnset cX4_isOnset 2 (some .boolean) 1 := ⟨in_p [.methodLink RX4 60 yX4_isOnset, .instanceMethod yX4_isOnset, .selects yX4_isOnset.cls yX4_isOnset yX4_isOnset, .initialized yX4_isOnset.cls, .code yX4_isOnset cX4_isOnset 2 (some .boolean)] [247, 248, 249, 12, 250] rfl (by decide +kernel), ⟨by decide +kernel, by decide +kernel, by decide +kernel⟩⟩
set_option maxRecDepth 100000 in
theorem ckX4_64 : CkV RX4 64 yX4_setting cX4_setting 2 (some .int) 1 := ⟨in_p [.methodLink RX4 64 yX4_setting, .instanceMethod yX4_setting, .selects yX4_setting.cls yX4_setting yX4_setting, .initialized yX4_setting.cls, .code yX4_setting cX4_setting 2 (some .int)] [288, 204, 205, 12, 206] rfl (by decide +kernel), ⟨by decide +kernel, by decide +kernel, by decide +kernel⟩⟩
set_option maxRecDepth 100000 in
theorem maX4_67 : ∀ w ∈ ([.methodLink RX4 67 Lib.Math.abs.name, .static Lib.Math.abs.name, .initialized "java/lang/Math", .code Lib.Math.abs.name Lib.Math.abs.code 1 (some .int)] : List Cond), w ∈ gtb := in_p [.methodLink RX4 67 Lib.Math.abs.name, .static Lib.Math.abs.name, .initialized "java/lang/Math", .code Lib.Math.abs.name Lib.Math.abs.code 1 (some .int)] [285, 286, 19, 287] rfl (by decide +kernel)
set_option maxRecDepth 100000 in
theorem maX4_72 : ∀ w ∈ ([.methodLink RX4 72 Lib.Math.min.name, .static Lib.Math.min.name, .initialized "java/lang/Math", .code Lib.Math.min.name Lib.Math.min.code 2 (some .int)] : List Cond), w ∈ gtb := in_p [.methodLink RX4 72 Lib.Math.min.name, .static Lib.Math.min.name, .initialized "java/lang/Math", .code Lib.Math.min.name Lib.Math.min.code 2 (some .int)] [289, 290, 19, 291] rfl (by decide +kernel)
set_option maxRecDepth 100000 in
theorem oiX1_3 : ∀ w ∈ ([.methodLink RX1 3 Lib.objectInit, .instanceMethod Lib.objectInit, .code Lib.objectInit ⟨#[0xb1]⟩ 1 none] : List Cond), w ∈ gtb := in_p [.methodLink RX1 3 Lib.objectInit, .instanceMethod Lib.objectInit, .code Lib.objectInit ⟨#[0xb1]⟩ 1 none] [128, 26, 27] rfl (by decide +kernel)
set_option maxRecDepth 100000 in
theorem poX1_9 : Pok RX1 9 1 0 true (.array .int) true := ⟨RX1, TX1, 12, tyX1, rfl, by decide, in_u1, tyX1_ok, nmX1, in_p [Cond.fieldLink RX1 9 RX1 "matches" "[I"] [129] (by decide +kernel) (by decide +kernel) _ List.mem_cons_self, rfl, rfl, by decide +kernel, rfl, by decide, fun _ => rfl⟩
set_option maxRecDepth 100000 in
theorem poX1_15 : Pok RX1 15 1 1 true (.array .int) true := ⟨RX1, TX1, 12, tyX1, rfl, by decide, in_u1, tyX1_ok, nmX1, in_p [Cond.fieldLink RX1 15 RX1 "shares" "[I"] [130] (by decide +kernel) (by decide +kernel) _ List.mem_cons_self, rfl, rfl, by decide +kernel, rfl, by decide, fun _ => rfl⟩
set_option maxRecDepth 100000 in
theorem poX1_18 : Pok RX1 18 1 2 true (.array .int) true := ⟨RX1, TX1, 12, tyX1, rfl, by decide, in_u1, tyX1_ok, nmX1, in_p [Cond.fieldLink RX1 18 RX1 "heldLines" "[I"] [131] (by decide +kernel) (by decide +kernel) _ List.mem_cons_self, rfl, rfl, by decide +kernel, rfl, by decide, fun _ => rfl⟩
set_option maxRecDepth 100000 in
theorem poX1_21 : Pok RX1 21 1 3 true (.array .int) true := ⟨RX1, TX1, 12, tyX1, rfl, by decide, in_u1, tyX1_ok, nmX1, in_p [Cond.fieldLink RX1 21 RX1 "onsets" "[I"] [132] (by decide +kernel) (by decide +kernel) _ List.mem_cons_self, rfl, rfl, by decide +kernel, rfl, by decide, fun _ => rfl⟩
set_option maxRecDepth 100000 in
theorem poX1_24 : Pok RX1 24 1 4 true (.array .int) true := ⟨RX1, TX1, 12, tyX1, rfl, by decide, in_u1, tyX1_ok, nmX1, in_p [Cond.fieldLink RX1 24 RX1 "reasons" "[I"] [133] (by decide +kernel) (by decide +kernel) _ List.mem_cons_self, rfl, rfl, by decide +kernel, rfl, by decide, fun _ => rfl⟩
set_option maxRecDepth 100000 in
theorem poX1_27 : Pok RX1 27 1 5 true (.array .int) true := ⟨RX1, TX1, 12, tyX1, rfl, by decide, in_u1, tyX1_ok, nmX1, in_p [Cond.fieldLink RX1 27 RX1 "rowsAhead" "[I"] [134] (by decide +kernel) (by decide +kernel) _ List.mem_cons_self, rfl, rfl, by decide +kernel, rfl, by decide, fun _ => rfl⟩
set_option maxRecDepth 100000 in
theorem poX1_30 : Pok RX1 30 1 6 true (.array .int) true := ⟨RX1, TX1, 12, tyX1, rfl, by decide, in_u1, tyX1_ok, nmX1, in_p [Cond.fieldLink RX1 30 RX1 "syllablePoints" "[I"] [135] (by decide +kernel) (by decide +kernel) _ List.mem_cons_self, rfl, rfl, by decide +kernel, rfl, by decide, fun _ => rfl⟩
set_option maxRecDepth 100000 in
theorem poX1_33 : Pok RX1 33 1 7 true (.array .int) true := ⟨RX1, TX1, 12, tyX1, rfl, by decide, in_u1, tyX1_ok, nmX1, in_p [Cond.fieldLink RX1 33 RX1 "phraseHits" "[I"] [136] (by decide +kernel) (by decide +kernel) _ List.mem_cons_self, rfl, rfl, by decide +kernel, rfl, by decide, fun _ => rfl⟩
set_option maxRecDepth 100000 in
theorem poX1_36 : Pok RX1 36 1 8 true (.array .int) true := ⟨RX1, TX1, 12, tyX1, rfl, by decide, in_u1, tyX1_ok, nmX1, in_p [Cond.fieldLink RX1 36 RX1 "phrasePoints" "[I"] [137] (by decide +kernel) (by decide +kernel) _ List.mem_cons_self, rfl, rfl, by decide +kernel, rfl, by decide, fun _ => rfl⟩
set_option maxRecDepth 100000 in
theorem poX1_39 : Pok RX1 39 1 9 true (.array .int) true := ⟨RX1, TX1, 12, tyX1, rfl, by decide, in_u1, tyX1_ok, nmX1, in_p [Cond.fieldLink RX1 39 RX1 "longestRows" "[I"] [138] (by decide +kernel) (by decide +kernel) _ List.mem_cons_self, rfl, rfl, by decide +kernel, rfl, by decide, fun _ => rfl⟩
set_option maxRecDepth 100000 in
theorem poX1_42 : Pok RX1 42 1 10 false .int false := ⟨RX1, TX1, 12, tyX1, rfl, by decide, in_u1, tyX1_ok, nmX1, in_p [Cond.fieldLink RX1 42 RX1 "hits" "I"] [139] (by decide +kernel) (by decide +kernel) _ List.mem_cons_self, rfl, rfl, by decide +kernel, rfl, by decide, fun _ => rfl⟩
set_option maxRecDepth 100000 in
theorem poX1_46 : Pok RX1 46 1 11 false .int false := ⟨RX1, TX1, 12, tyX1, rfl, by decide, in_u1, tyX1_ok, nmX1, in_p [Cond.fieldLink RX1 46 RX1 "points" "I"] [141] (by decide +kernel) (by decide +kernel) _ List.mem_cons_self, rfl, rfl, by decide +kernel, rfl, by decide, fun _ => rfl⟩
set_option maxRecDepth 100000 in
theorem foX1_49 : Fok RX1 49 4 0 true := ⟨RX4, TX4, 3, rfl, by decide, in_u4, in_p [Cond.fieldLink RX1 49 RX4 "song" "LSungSlides$Song;"] [66] (by decide +kernel) (by decide +kernel) _ List.mem_cons_self, rfl, rfl, by decide⟩
set_option maxRecDepth 100000 in
theorem ckX1_55 : CkV RX1 55 yX3_size cX3_size 1 (some .int) 0 := ⟨in_p [.methodLink RX1 55 yX3_size, .instanceMethod yX3_size, .selects yX3_size.cls yX3_size yX3_size, .initialized yX3_size.cls, .code yX3_size cX3_size 1 (some .int)] [259, 208, 209, 13, 210] rfl (by decide +kernel), ⟨by decide +kernel, by decide +kernel, by decide +kernel⟩⟩
set_option maxRecDepth 100000 in
theorem ckX1_61 : CkV RX1 61 yX1_hear cX1_hear 14 none 2 := ⟨in_p [.methodLink RX1 61 yX1_hear, .instanceMethod yX1_hear, .selects yX1_hear.cls yX1_hear yX1_hear, .initialized yX1_hear.cls, .code yX1_hear cX1_hear 14 none] [260, 262, 1, 18, 263] rfl (by decide +kernel), ⟨by decide +kernel, by decide +kernel, by decide +kernel⟩⟩
set_option maxRecDepth 100000 in
theorem ckX1_65 : CkV RX1 65 yX1_score cX1_score 5 none 1 := ⟨in_p [.methodLink RX1 65 yX1_score, .instanceMethod yX1_score, .selects yX1_score.cls yX1_score yX1_score, .initialized yX1_score.cls, .code yX1_score cX1_score 5 none] [318, 320, 3, 18, 321] rfl (by decide +kernel), ⟨by decide +kernel, by decide +kernel, by decide +kernel⟩⟩
set_option maxRecDepth 100000 in
theorem foX1_9 : Fok RX1 9 1 0 true := ⟨RX1, TX1, 12, rfl, by decide, in_u1, in_p [Cond.fieldLink RX1 9 RX1 "matches" "[I"] [129] (by decide +kernel) (by decide +kernel) _ List.mem_cons_self, rfl, rfl, by decide⟩
set_option maxRecDepth 100000 in
theorem ckX1_69 : CkV RX1 69 yX3_lengthOf cX3_lengthOf 2 (some .int) 1 := ⟨in_p [.methodLink RX1 69 yX3_lengthOf, .instanceMethod yX3_lengthOf, .selects yX3_lengthOf.cls yX3_lengthOf yX3_lengthOf, .initialized yX3_lengthOf.cls, .code yX3_lengthOf cX3_lengthOf 2 (some .int)] [265, 232, 233, 13, 234] rfl (by decide +kernel), ⟨by decide +kernel, by decide +kernel, by decide +kernel⟩⟩
set_option maxRecDepth 100000 in
theorem foX1_15 : Fok RX1 15 1 1 true := ⟨RX1, TX1, 12, rfl, by decide, in_u1, in_p [Cond.fieldLink RX1 15 RX1 "shares" "[I"] [130] (by decide +kernel) (by decide +kernel) _ List.mem_cons_self, rfl, rfl, by decide⟩
set_option maxRecDepth 100000 in
theorem foX1_18 : Fok RX1 18 1 2 true := ⟨RX1, TX1, 12, rfl, by decide, in_u1, in_p [Cond.fieldLink RX1 18 RX1 "heldLines" "[I"] [131] (by decide +kernel) (by decide +kernel) _ List.mem_cons_self, rfl, rfl, by decide⟩
set_option maxRecDepth 100000 in
theorem ckX1_73 : CkV RX1 73 yX4_setting cX4_setting 2 (some .int) 1 := ⟨in_p [.methodLink RX1 73 yX4_setting, .instanceMethod yX4_setting, .selects yX4_setting.cls yX4_setting yX4_setting, .initialized yX4_setting.cls, .code yX4_setting cX4_setting 2 (some .int)] [267, 204, 205, 12, 206] rfl (by decide +kernel), ⟨by decide +kernel, by decide +kernel, by decide +kernel⟩⟩
set_option maxRecDepth 100000 in
theorem ckX1_76 : CkV RX1 76 yX3_barLinesOf cX3_barLinesOf 5 (some .int) 2 := ⟨in_p [.methodLink RX1 76 yX3_barLinesOf, .instanceMethod yX3_barLinesOf, .selects yX3_barLinesOf.cls yX3_barLinesOf yX3_barLinesOf, .initialized yX3_barLinesOf.cls, .code yX3_barLinesOf cX3_barLinesOf 5 (some .int)] [360, 361, 362, 13, 363] rfl (by decide +kernel), ⟨by decide +kernel, by decide +kernel, by decide +kernel⟩⟩
set_option maxRecDepth 100000 in
theorem foX1_21 : Fok RX1 21 1 3 true := ⟨RX1, TX1, 12, rfl, by decide, in_u1, in_p [Cond.fieldLink RX1 21 RX1 "onsets" "[I"] [132] (by decide +kernel) (by decide +kernel) _ List.mem_cons_self, rfl, rfl, by decide⟩
set_option maxRecDepth 100000 in
theorem ckX1_80 : CkV RX1 80 yX3_beginningOf cX3_beginningOf 2 (some .int) 1 := ⟨in_p [.methodLink RX1 80 yX3_beginningOf, .instanceMethod yX3_beginningOf, .selects yX3_beginningOf.cls yX3_beginningOf yX3_beginningOf, .initialized yX3_beginningOf.cls, .code yX3_beginningOf cX3_beginningOf 2 (some .int)] [266, 228, 229, 13, 230] rfl (by decide +kernel), ⟨by decide +kernel, by decide +kernel, by decide +kernel⟩⟩
set_option maxRecDepth 100000 in
theorem foX1_24 : Fok RX1 24 1 4 true := ⟨RX1, TX1, 12, rfl, by decide, in_u1, in_p [Cond.fieldLink RX1 24 RX1 "reasons" "[I"] [133] (by decide +kernel) (by decide +kernel) _ List.mem_cons_self, rfl, rfl, by decide⟩
set_option maxRecDepth 100000 in
theorem ckX1_83 : CkN RX1 83 "SungSlides" yX6_isWithin cX6_isWithin 3 (some .boolean) 3 := ⟨in_p [.static yX6_isWithin, .initialized yX6_isWithin.cls, .code yX6_isWithin cX6_isWithin 3 (some .boolean)] [198, 11, 199] rfl (by decide +kernel), ⟨by decide +kernel, by decide +kernel, by decide +kernel⟩, in_n _ 264 rfl rfl⟩
set_option maxRecDepth 100000 in
theorem ckX1_87 : CkV RX1 87 yX4_sungAt cX4_sungAt 2 (some .int) 1 := ⟨in_p [.methodLink RX1 87 yX4_sungAt, .instanceMethod yX4_sungAt, .selects yX4_sungAt.cls yX4_sungAt yX4_sungAt, .initialized yX4_sungAt.cls, .code yX4_sungAt cX4_sungAt 2 (some .int)] [268, 240, 241, 12, 242] rfl (by decide +kernel), ⟨by decide +kernel, by decide +kernel, by decide +kernel⟩⟩
set_option maxRecDepth 100000 in
theorem ckX1_90 : CkV RX1 90 yX3_wantedOf cX3_wantedOf 5 (some .int) 2 := ⟨in_p [.methodLink RX1 90 yX3_wantedOf, .instanceMethod yX3_wantedOf, .selects yX3_wantedOf.cls yX3_wantedOf yX3_wantedOf, .initialized yX3_wantedOf.cls, .code yX3_wantedOf cX3_wantedOf 5 (some .int)] [269, 270, 271, 13, 272] rfl (by decide +kernel), ⟨by decide +kernel, by decide +kernel, by decide +kernel⟩⟩
set_option maxRecDepth 100000 in
theorem ckX1_93 : CkV RX1 93 yX4_isMatch cX4_isMatch 5 (some .boolean) 2 := ⟨in_p [.methodLink RX1 93 yX4_isMatch, .instanceMethod yX4_isMatch, .selects yX4_isMatch.cls yX4_isMatch yX4_isMatch, .initialized yX4_isMatch.cls, .code yX4_isMatch cX4_isMatch 5 (some .boolean)] [281, 282, 283, 12, 284] rfl (by decide +kernel), ⟨by decide +kernel, by decide +kernel, by decide +kernel⟩⟩
set_option maxRecDepth 100000 in
theorem ckX1_97 : CkS RX1 97 yX1_isBarLine cX1_isBarLine 2 (some .boolean) 2 := ⟨in_p [.methodLink RX1 97 yX1_isBarLine, .static yX1_isBarLine, .initialized RX1, .code yX1_isBarLine cX1_isBarLine 2 (some .boolean)] [292, 293, 18, 294] rfl (by decide +kernel), rfl, ⟨by decide +kernel, by decide +kernel, by decide +kernel⟩⟩
set_option maxRecDepth 100000 in
theorem ckX1_100 : CkV RX1 100 yX4_onsetNear cX4_onsetNear 4 (some .int) 1 := ⟨in_p [.methodLink RX1 100 yX4_onsetNear, .instanceMethod yX4_onsetNear, .selects yX4_onsetNear.cls yX4_onsetNear yX4_onsetNear, .initialized yX4_onsetNear.cls, .code yX4_onsetNear cX4_onsetNear 4 (some .int)] [295, 296, 297, 12, 298] rfl (by decide +kernel), ⟨by decide +kernel, by decide +kernel, by decide +kernel⟩⟩
set_option maxRecDepth 100000 in
theorem ckX1_103 : CkV RX1 103 yX1_reasonFor cX1_reasonFor 4 (some .int) 3 := ⟨in_p [.methodLink RX1 103 yX1_reasonFor, .instanceMethod yX1_reasonFor, .selects yX1_reasonFor.cls yX1_reasonFor yX1_reasonFor, .initialized yX1_reasonFor.cls, .code yX1_reasonFor cX1_reasonFor 4 (some .int)] [299, 301, 2, 18, 302] rfl (by decide +kernel), ⟨by decide +kernel, by decide +kernel, by decide +kernel⟩⟩
set_option maxRecDepth 100000 in
theorem ckX1_107 : CkV RX1 107 yX1_matchesOf cX1_matchesOf 2 (some .int) 1 := ⟨in_p [.methodLink RX1 107 yX1_matchesOf, .instanceMethod yX1_matchesOf, .selects yX1_matchesOf.cls yX1_matchesOf yX1_matchesOf, .initialized yX1_matchesOf.cls, .code yX1_matchesOf cX1_matchesOf 2 (some .int)] [303, 304, 305, 18, 306] rfl (by decide +kernel), ⟨by decide +kernel, by decide +kernel, by decide +kernel⟩⟩
set_option maxRecDepth 100000 in
theorem ckX1_110 : CkV RX1 110 yX1_onsetOf cX1_onsetOf 2 (some .int) 1 := ⟨in_p [.methodLink RX1 110 yX1_onsetOf, .instanceMethod yX1_onsetOf, .selects yX1_onsetOf.cls yX1_onsetOf yX1_onsetOf, .initialized yX1_onsetOf.cls, .code yX1_onsetOf cX1_onsetOf 2 (some .int)] [310, 311, 312, 18, 313] rfl (by decide +kernel), ⟨by decide +kernel, by decide +kernel, by decide +kernel⟩⟩
set_option maxRecDepth 100000 in
theorem ckX1_113 : CkV RX1 113 yX1_shareOf cX1_shareOf 2 (some .int) 1 := ⟨in_p [.methodLink RX1 113 yX1_shareOf, .instanceMethod yX1_shareOf, .selects yX1_shareOf.cls yX1_shareOf yX1_shareOf, .initialized yX1_shareOf.cls, .code yX1_shareOf cX1_shareOf 2 (some .int)] [314, 315, 316, 18, 317] rfl (by decide +kernel), ⟨by decide +kernel, by decide +kernel, by decide +kernel⟩⟩
set_option maxRecDepth 100000 in
theorem ckX1_116 : CkV RX1 116 yX3_phraseOf cX3_phraseOf 2 (some .int) 1 := ⟨in_p [.methodLink RX1 116 yX3_phraseOf, .instanceMethod yX3_phraseOf, .selects yX3_phraseOf.cls yX3_phraseOf yX3_phraseOf, .initialized yX3_phraseOf.cls, .code yX3_phraseOf cX3_phraseOf 2 (some .int)] [322, 216, 217, 13, 218] rfl (by decide +kernel), ⟨by decide +kernel, by decide +kernel, by decide +kernel⟩⟩
set_option maxRecDepth 100000 in
theorem ckX1_119 : CkV RX1 119 yX3_beginsPhrase cX3_beginsPhrase 2 (some .boolean) 1 := ⟨in_p [.methodLink RX1 119 yX3_beginsPhrase, .instanceMethod yX3_beginsPhrase, .selects yX3_beginsPhrase.cls yX3_beginsPhrase yX3_beginsPhrase, .initialized yX3_beginsPhrase.cls, .code yX3_beginsPhrase cX3_beginsPhrase 2 (some .boolean)] [323, 324, 325, 13, 326] rfl (by decide +kernel), ⟨by decide +kernel, by decide +kernel, by decide +kernel⟩⟩
set_option maxRecDepth 100000 in
theorem ckX1_123 : CkV RX1 123 yX1_beginPhrase cX1_beginPhrase 2 none 1 := ⟨in_p [.methodLink RX1 123 yX1_beginPhrase, .instanceMethod yX1_beginPhrase, .selects yX1_beginPhrase.cls yX1_beginPhrase yX1_beginPhrase, .initialized yX1_beginPhrase.cls, .code yX1_beginPhrase cX1_beginPhrase 2 none] [327, 329, 4, 18, 330] rfl (by decide +kernel), ⟨by decide +kernel, by decide +kernel, by decide +kernel⟩⟩
set_option maxRecDepth 100000 in
theorem foX1_27 : Fok RX1 27 1 5 true := ⟨RX1, TX1, 12, rfl, by decide, in_u1, in_p [Cond.fieldLink RX1 27 RX1 "rowsAhead" "[I"] [134] (by decide +kernel) (by decide +kernel) _ List.mem_cons_self, rfl, rfl, by decide⟩
set_option maxRecDepth 100000 in
theorem maX1_127 : ∀ w ∈ ([.methodLink RX1 127 Lib.Math.min.name, .static Lib.Math.min.name, .initialized "java/lang/Math", .code Lib.Math.min.name Lib.Math.min.code 2 (some .int)] : List Cond), w ∈ gtb := in_p [.methodLink RX1 127 Lib.Math.min.name, .static Lib.Math.min.name, .initialized "java/lang/Math", .code Lib.Math.min.name Lib.Math.min.code 2 (some .int)] [331, 290, 19, 291] rfl (by decide +kernel)
set_option maxRecDepth 100000 in
theorem foX1_30 : Fok RX1 30 1 6 true := ⟨RX1, TX1, 12, rfl, by decide, in_u1, in_p [Cond.fieldLink RX1 30 RX1 "syllablePoints" "[I"] [135] (by decide +kernel) (by decide +kernel) _ List.mem_cons_self, rfl, rfl, by decide⟩
set_option maxRecDepth 100000 in
theorem ckX1_132 : CkV RX1 132 yX1_scoreOf cX1_scoreOf 5 (some .int) 2 := ⟨in_p [.methodLink RX1 132 yX1_scoreOf, .instanceMethod yX1_scoreOf, .selects yX1_scoreOf.cls yX1_scoreOf yX1_scoreOf, .initialized yX1_scoreOf.cls, .code yX1_scoreOf cX1_scoreOf 5 (some .int)] [332, 334, 5, 18, 335] rfl (by decide +kernel), ⟨by decide +kernel, by decide +kernel, by decide +kernel⟩⟩
set_option maxRecDepth 100000 in
theorem foX1_36 : Fok RX1 36 1 8 true := ⟨RX1, TX1, 12, rfl, by decide, in_u1, in_p [Cond.fieldLink RX1 36 RX1 "phrasePoints" "[I"] [137] (by decide +kernel) (by decide +kernel) _ List.mem_cons_self, rfl, rfl, by decide⟩
set_option maxRecDepth 100000 in
theorem foX1_33 : Fok RX1 33 1 7 true := ⟨RX1, TX1, 12, rfl, by decide, in_u1, in_p [Cond.fieldLink RX1 33 RX1 "phraseHits" "[I"] [136] (by decide +kernel) (by decide +kernel) _ List.mem_cons_self, rfl, rfl, by decide⟩
set_option maxRecDepth 100000 in
theorem foX1_39 : Fok RX1 39 1 9 true := ⟨RX1, TX1, 12, rfl, by decide, in_u1, in_p [Cond.fieldLink RX1 39 RX1 "longestRows" "[I"] [138] (by decide +kernel) (by decide +kernel) _ List.mem_cons_self, rfl, rfl, by decide⟩
set_option maxRecDepth 100000 in
theorem maX1_136 : ∀ w ∈ ([.methodLink RX1 136 Lib.Math.max.name, .static Lib.Math.max.name, .initialized "java/lang/Math", .code Lib.Math.max.name Lib.Math.max.code 2 (some .int)] : List Cond), w ∈ gtb := in_p [.methodLink RX1 136 Lib.Math.max.name, .static Lib.Math.max.name, .initialized "java/lang/Math", .code Lib.Math.max.name Lib.Math.max.code 2 (some .int)] [337, 338, 19, 339] rfl (by decide +kernel)
set_option maxRecDepth 100000 in
theorem ckX1_139 : CkV RX1 139 yX3_phraseCount cX3_phraseCount 1 (some .int) 0 := ⟨in_p [.methodLink RX1 139 yX3_phraseCount, .instanceMethod yX3_phraseCount, .selects yX3_phraseCount.cls yX3_phraseCount yX3_phraseCount, .initialized yX3_phraseCount.cls, .code yX3_phraseCount cX3_phraseCount 1 (some .int)] [340, 212, 213, 13, 214] rfl (by decide +kernel), ⟨by decide +kernel, by decide +kernel, by decide +kernel⟩⟩
set_option maxRecDepth 100000 in
theorem ckX1_142 : CkV RX1 142 yX3_sizeOfPhrase cX3_sizeOfPhrase 4 (some .int) 1 := ⟨in_p [.methodLink RX1 142 yX3_sizeOfPhrase, .instanceMethod yX3_sizeOfPhrase, .selects yX3_sizeOfPhrase.cls yX3_sizeOfPhrase yX3_sizeOfPhrase, .initialized yX3_sizeOfPhrase.cls, .code yX3_sizeOfPhrase cX3_sizeOfPhrase 4 (some .int)] [341, 342, 343, 13, 344] rfl (by decide +kernel), ⟨by decide +kernel, by decide +kernel, by decide +kernel⟩⟩
set_option maxRecDepth 100000 in
theorem ckX1_145 : CkS RX1 145 yX1_extraOf cX1_extraOf 2 (some .int) 2 := ⟨in_p [.methodLink RX1 145 yX1_extraOf, .static yX1_extraOf, .initialized RX1, .code yX1_extraOf cX1_extraOf 2 (some .int)] [345, 346, 18, 347] rfl (by decide +kernel), rfl, ⟨by decide +kernel, by decide +kernel, by decide +kernel⟩⟩
set_option maxRecDepth 100000 in
theorem foX1_42 : Fok RX1 42 1 10 false := ⟨RX1, TX1, 12, rfl, by decide, in_u1, in_p [Cond.fieldLink RX1 42 RX1 "hits" "I"] [139] (by decide +kernel) (by decide +kernel) _ List.mem_cons_self, rfl, rfl, by decide⟩
set_option maxRecDepth 100000 in
theorem foX1_46 : Fok RX1 46 1 11 false := ⟨RX1, TX1, 12, rfl, by decide, in_u1, in_p [Cond.fieldLink RX1 46 RX1 "points" "I"] [141] (by decide +kernel) (by decide +kernel) _ List.mem_cons_self, rfl, rfl, by decide⟩
set_option maxRecDepth 100000 in
theorem maX1_148 : ∀ w ∈ ([.methodLink RX1 148 Lib.Math.abs.name, .static Lib.Math.abs.name, .initialized "java/lang/Math", .code Lib.Math.abs.name Lib.Math.abs.code 1 (some .int)] : List Cond), w ∈ gtb := in_p [.methodLink RX1 148 Lib.Math.abs.name, .static Lib.Math.abs.name, .initialized "java/lang/Math", .code Lib.Math.abs.name Lib.Math.abs.code 1 (some .int)] [336, 286, 19, 287] rfl (by decide +kernel)
set_option maxRecDepth 100000 in
theorem ckX1_151 : CkS RX1 151 yX1_valueIn cX1_valueIn 2 (some .int) 2 := ⟨in_p [.methodLink RX1 151 yX1_valueIn, .static yX1_valueIn, .initialized RX1, .code yX1_valueIn cX1_valueIn 2 (some .int)] [307, 308, 18, 309] rfl (by decide +kernel), rfl, ⟨by decide +kernel, by decide +kernel, by decide +kernel⟩⟩
set_option maxRecDepth 100000 in
theorem oiX0_3 : ∀ w ∈ ([.methodLink RX0 3 Lib.objectInit, .instanceMethod Lib.objectInit, .code Lib.objectInit ⟨#[0xb1]⟩ 1 none] : List Cond), w ∈ gtb := in_p [.methodLink RX0 3 Lib.objectInit, .instanceMethod Lib.objectInit, .code Lib.objectInit ⟨#[0xb1]⟩ 1 none] [82, 26, 27] rfl (by decide +kernel)
set_option maxRecDepth 100000 in
theorem clX0_9 : Cond.classLink RX0 9 "SungSlides$State" ∈ gtb := in_p [Cond.classLink RX0 9 "SungSlides$State"] [83] rfl (by decide +kernel) _ List.mem_cons_self
set_option maxRecDepth 100000 in
theorem poX0_11 : Pok RX0 11 0 0 true (.array (.object "SungSlides$State")) true := ⟨RX0, TX0, 2, tyX0, rfl, by decide, in_u0, tyX0_ok, nmX0, in_p [Cond.fieldLink RX0 11 RX0 "states" "[LSungSlides$State;"] [86] (by decide +kernel) (by decide +kernel) _ List.mem_cons_self, rfl, rfl, by decide +kernel, rfl, by decide, fun _ => rfl⟩
set_option maxRecDepth 100000 in
theorem poX0_17 : Pok RX0 17 0 1 false .int false := ⟨RX0, TX0, 2, tyX0, rfl, by decide, in_u0, tyX0_ok, nmX0, in_p [Cond.fieldLink RX0 17 RX0 "count" "I"] [87] (by decide +kernel) (by decide +kernel) _ List.mem_cons_self, rfl, rfl, by decide +kernel, rfl, by decide, fun _ => rfl⟩
set_option maxRecDepth 100000 in
theorem foX0_11 : Fok RX0 11 0 0 true := ⟨RX0, TX0, 2, rfl, by decide, in_u0, in_p [Cond.fieldLink RX0 11 RX0 "states" "[LSungSlides$State;"] [86] (by decide +kernel) (by decide +kernel) _ List.mem_cons_self, rfl, rfl, by decide⟩
set_option maxRecDepth 100000 in
theorem ckX0_21 : CkI RX0 21 yX4_init cX4_init 2 0 := ⟨in_p [.methodLink RX0 21 yX4_init, .instanceMethod yX4_init, .initialized yX4_init.cls, .code yX4_init cX4_init 2 none] [85, 31, 12, 32] rfl (by decide +kernel), rfl, ⟨by decide +kernel, by decide +kernel, by decide +kernel⟩⟩
set_option maxRecDepth 100000 in
theorem noX0_9 : Nok RX0 9 4 := ⟨RX4, TX4, 3, tyX4, rfl, in_u4, tyX4_ok, in_p [Cond.classLink RX0 9 RX4] [83] rfl (by decide +kernel) _ List.mem_cons_self, in_p [Cond.instantiable RX4 3] [29] rfl (by decide +kernel) _ List.mem_cons_self, in_p [Cond.initialized RX4] [12] rfl (by decide +kernel) _ List.mem_cons_self, by decide, rfl, by decide +kernel⟩
set_option maxRecDepth 100000 in
theorem foX0_17 : Fok RX0 17 0 1 false := ⟨RX0, TX0, 2, rfl, by decide, in_u0, in_p [Cond.fieldLink RX0 17 RX0 "count" "I"] [87] (by decide +kernel) (by decide +kernel) _ List.mem_cons_self, rfl, rfl, by decide⟩
set_option maxRecDepth 100000 in
theorem ckX0_22 : CkV RX0 22 yX0_dropOldest cX0_dropOldest 3 none 0 := ⟨in_p [.methodLink RX0 22 yX0_dropOldest, .instanceMethod yX0_dropOldest, .selects yX0_dropOldest.cls yX0_dropOldest yX0_dropOldest, .initialized yX0_dropOldest.cls, .code yX0_dropOldest cX0_dropOldest 3 none] [511, 513, 9, 15, 514] rfl (by decide +kernel), ⟨by decide +kernel, by decide +kernel, by decide +kernel⟩⟩
set_option maxRecDepth 100000 in
theorem ckX0_25 : CkN RX0 25 "SungSlides" yX6_isWithin cX6_isWithin 3 (some .boolean) 3 := ⟨in_p [.static yX6_isWithin, .initialized yX6_isWithin.cls, .code yX6_isWithin cX6_isWithin 3 (some .boolean)] [198, 11, 199] rfl (by decide +kernel), ⟨by decide +kernel, by decide +kernel, by decide +kernel⟩, in_n _ 515 rfl rfl⟩
set_option maxRecDepth 100000 in
theorem ckX0_29 : CkV RX0 29 yX4_copyFrom cX4_copyFrom 2 none 1 := ⟨in_p [.methodLink RX0 29 yX4_copyFrom, .instanceMethod yX4_copyFrom, .selects yX4_copyFrom.cls yX4_copyFrom yX4_copyFrom, .initialized yX4_copyFrom.cls, .code yX4_copyFrom cX4_copyFrom 2 none] [516, 377, 378, 12, 379] rfl (by decide +kernel), ⟨by decide +kernel, by decide +kernel, by decide +kernel⟩⟩
set_option maxRecDepth 100000 in
theorem oiX5_3 : ∀ w ∈ ([.methodLink RX5 3 Lib.objectInit, .instanceMethod Lib.objectInit, .code Lib.objectInit ⟨#[0xb1]⟩ 1 none] : List Cond), w ∈ gtb := in_p [.methodLink RX5 3 Lib.objectInit, .instanceMethod Lib.objectInit, .code Lib.objectInit ⟨#[0xb1]⟩ 1 none] [98, 26, 27] rfl (by decide +kernel)
set_option maxRecDepth 100000 in
theorem ac_char : Cond.arrayClass .char ∈ gtb := in_p [Cond.arrayClass .char] [106] rfl (by decide +kernel) _ List.mem_cons_self
set_option maxRecDepth 100000 in
theorem poX5_9 : Pok RX5 9 5 0 true (.array .char) true := ⟨RX5, TX5, 2, tyX5, rfl, by decide, in_u5, tyX5_ok, nmX5, in_p [Cond.fieldLink RX5 9 RX5 "characters" "[C"] [99] (by decide +kernel) (by decide +kernel) _ List.mem_cons_self, rfl, rfl, by decide +kernel, rfl, by decide, fun _ => rfl⟩
set_option maxRecDepth 100000 in
theorem poX5_15 : Pok RX5 15 5 1 false .int false := ⟨RX5, TX5, 2, tyX5, rfl, by decide, in_u5, tyX5_ok, nmX5, in_p [Cond.fieldLink RX5 15 RX5 "count" "I"] [100] (by decide +kernel) (by decide +kernel) _ List.mem_cons_self, rfl, rfl, by decide +kernel, rfl, by decide, fun _ => rfl⟩
set_option maxRecDepth 100000 in
theorem foX5_15 : Fok RX5 15 5 1 false := ⟨RX5, TX5, 2, rfl, by decide, in_u5, in_p [Cond.fieldLink RX5 15 RX5 "count" "I"] [100] (by decide +kernel) (by decide +kernel) _ List.mem_cons_self, rfl, rfl, by decide⟩
set_option maxRecDepth 100000 in
theorem oiX2_3 : ∀ w ∈ ([.methodLink RX2 3 Lib.objectInit, .instanceMethod Lib.objectInit, .code Lib.objectInit ⟨#[0xb1]⟩ 1 none] : List Cond), w ∈ gtb := in_p [.methodLink RX2 3 Lib.objectInit, .instanceMethod Lib.objectInit, .code Lib.objectInit ⟨#[0xb1]⟩ 1 none] [112, 26, 27] rfl (by decide +kernel)
set_option maxRecDepth 100000 in
theorem poX2_9 : Pok RX2 9 2 0 false .int false := ⟨RX2, TX2, 3, tyX2, rfl, by decide, in_u2, tyX2_ok, nmX2, in_p [Cond.fieldLink RX2 9 RX2 "place" "I"] [113] (by decide +kernel) (by decide +kernel) _ List.mem_cons_self, rfl, rfl, by decide +kernel, rfl, by decide, fun _ => rfl⟩
set_option maxRecDepth 100000 in
theorem poX2_15 : Pok RX2 15 2 1 false .boolean false := ⟨RX2, TX2, 3, tyX2, rfl, by decide, in_u2, tyX2_ok, nmX2, in_p [Cond.fieldLink RX2 15 RX2 "hasFault" "Z"] [114] (by decide +kernel) (by decide +kernel) _ List.mem_cons_self, rfl, rfl, by decide +kernel, rfl, by decide, fun _ => rfl⟩
set_option maxRecDepth 100000 in
theorem poX2_19 : Pok RX2 19 2 2 false .boolean false := ⟨RX2, TX2, 3, tyX2, rfl, by decide, in_u2, tyX2_ok, nmX2, in_p [Cond.fieldLink RX2 19 RX2 "isTooLong" "Z"] [115] (by decide +kernel) (by decide +kernel) _ List.mem_cons_self, rfl, rfl, by decide +kernel, rfl, by decide, fun _ => rfl⟩
