set_option maxRecDepth 100000 in
theorem kcL_7 : Cond.constant RL 7 866638277 ∈ gtb := in_p [Cond.constant RL 7 866638277] [401] rfl (by decide +kernel) _ List.mem_cons_self
set_option maxRecDepth 100000 in
theorem kcL_8 : Cond.constant RL 8 798091187 ∈ gtb := in_p [Cond.constant RL 8 798091187] [402] rfl (by decide +kernel) _ List.mem_cons_self
set_option maxRecDepth 100000 in
theorem kcL_9 : Cond.constant RL 9 2147483647 ∈ gtb := in_p [Cond.constant RL 9 2147483647] [502] rfl (by decide +kernel) _ List.mem_cons_self
set_option maxRecDepth 100000 in
theorem ckL_10 : CkV RL 10 yX6_syllable cX6_syllable 3 (some .int) 2 := ⟨in_p [.methodLink RL 10 yX6_syllable, .instanceMethod yX6_syllable, .selects yX6_syllable.cls yX6_syllable yX6_syllable, .initialized yX6_syllable.cls, .code yX6_syllable cX6_syllable 3 (some .int)] [406, 407, 408, 11, 409] rfl (by decide +kernel), ⟨by decide +kernel, by decide +kernel, by decide +kernel⟩⟩
set_option maxRecDepth 100000 in
theorem ckL_16 : CkV RL 16 yX6_lit cX6_lit 4 (some .int) 2 := ⟨in_p [.methodLink RL 16 yX6_lit, .instanceMethod yX6_lit, .selects yX6_lit.cls yX6_lit yX6_lit, .initialized yX6_lit.cls, .code yX6_lit cX6_lit 4 (some .int)] [435, 436, 437, 11, 438] rfl (by decide +kernel), ⟨by decide +kernel, by decide +kernel, by decide +kernel⟩⟩
set_option maxRecDepth 100000 in
theorem ckL_19 : CkV RL 19 yX6_wanted cX6_wanted 5 (some .int) 1 := ⟨in_p [.methodLink RL 19 yX6_wanted, .instanceMethod yX6_wanted, .selects yX6_wanted.cls yX6_wanted yX6_wanted, .initialized yX6_wanted.cls, .code yX6_wanted cX6_wanted 5 (some .int)] [441, 442, 443, 11, 444] rfl (by decide +kernel), ⟨by decide +kernel, by decide +kernel, by decide +kernel⟩⟩
set_option maxRecDepth 100000 in
theorem ckL_23 : CkV RL 23 yX6_sung cX6_sung 3 (some .int) 1 := ⟨in_p [.methodLink RL 23 yX6_sung, .instanceMethod yX6_sung, .selects yX6_sung.cls yX6_sung yX6_sung, .initialized yX6_sung.cls, .code yX6_sung cX6_sung 3 (some .int)] [446, 447, 448, 11, 449] rfl (by decide +kernel), ⟨by decide +kernel, by decide +kernel, by decide +kernel⟩⟩
set_option maxRecDepth 100000 in
theorem ckL_26 : CkV RL 26 yX6_total cX6_total 2 (some .int) 1 := ⟨in_p [.methodLink RL 26 yX6_total, .instanceMethod yX6_total, .selects yX6_total.cls yX6_total yX6_total, .initialized yX6_total.cls, .code yX6_total cX6_total 2 (some .int)] [193, 194, 195, 11, 196] rfl (by decide +kernel), ⟨by decide +kernel, by decide +kernel, by decide +kernel⟩⟩
set_option maxRecDepth 100000 in
theorem ckL_29 : CkS RL 29 yL_isSyllable cL_isSyllable 12 (some .boolean) 2 := ⟨in_p [.methodLink RL 29 yL_isSyllable, .static yL_isSyllable, .initialized RL, .code yL_isSyllable cL_isSyllable 12 (some .boolean)] [432, 433, 10, 434] rfl (by decide +kernel), rfl, ⟨by decide +kernel, by decide +kernel, by decide +kernel⟩⟩
set_option maxRecDepth 100000 in
theorem ckL_35 : CkV RL 35 yX6_worst cX6_worst 4 (some .int) 0 := ⟨in_p [.methodLink RL 35 yX6_worst, .instanceMethod yX6_worst, .selects yX6_worst.cls yX6_worst yX6_worst, .initialized yX6_worst.cls, .code yX6_worst cX6_worst 4 (some .int)] [451, 452, 453, 11, 454] rfl (by decide +kernel), ⟨by decide +kernel, by decide +kernel, by decide +kernel⟩⟩
set_option maxRecDepth 100000 in
theorem ckL_39 : CkV RL 39 yX6_phrase cX6_phrase 3 (some .int) 2 := ⟨in_p [.methodLink RL 39 yX6_phrase, .instanceMethod yX6_phrase, .selects yX6_phrase.cls yX6_phrase yX6_phrase, .initialized yX6_phrase.cls, .code yX6_phrase cX6_phrase 3 (some .int)] [459, 460, 461, 11, 462] rfl (by decide +kernel), ⟨by decide +kernel, by decide +kernel, by decide +kernel⟩⟩
set_option maxRecDepth 100000 in
theorem kcL_42 : Cond.constant RL 42 100000 ∈ gtb := in_p [Cond.constant RL 42 100000] [476] rfl (by decide +kernel) _ List.mem_cons_self
set_option maxRecDepth 100000 in
theorem ckL_43 : CkV RL 43 yX6_ifShifted cX6_ifShifted 3 (some .int) 2 := ⟨in_p [.methodLink RL 43 yX6_ifShifted, .instanceMethod yX6_ifShifted, .selects yX6_ifShifted.cls yX6_ifShifted yX6_ifShifted, .initialized yX6_ifShifted.cls, .code yX6_ifShifted cX6_ifShifted 3 (some .int)] [477, 478, 479, 11, 480] rfl (by decide +kernel), ⟨by decide +kernel, by decide +kernel, by decide +kernel⟩⟩
set_option maxRecDepth 100000 in
theorem ckL_46 : CkV RL 46 yX6_bestShift cX6_bestShift 6 (some .int) 0 := ⟨in_p [.methodLink RL 46 yX6_bestShift, .instanceMethod yX6_bestShift, .selects yX6_bestShift.cls yX6_bestShift yX6_bestShift, .initialized yX6_bestShift.cls, .code yX6_bestShift cX6_bestShift 6 (some .int)] [372, 373, 374, 11, 375] rfl (by decide +kernel), ⟨by decide +kernel, by decide +kernel, by decide +kernel⟩⟩
set_option maxRecDepth 100000 in
theorem ckL_49 : CkV RL 49 yX6_ifSet cX6_ifSet 3 (some .int) 2 := ⟨in_p [.methodLink RL 49 yX6_ifSet, .instanceMethod yX6_ifSet, .selects yX6_ifSet.cls yX6_ifSet yX6_ifSet, .initialized yX6_ifSet.cls, .code yX6_ifSet cX6_ifSet 3 (some .int)] [484, 485, 486, 11, 487] rfl (by decide +kernel), ⟨by decide +kernel, by decide +kernel, by decide +kernel⟩⟩
set_option maxRecDepth 100000 in
theorem ckL_52 : CkS RL 52 yL_low cL_low 2 (some .int) 2 := ⟨in_p [.methodLink RL 52 yL_low, .static yL_low, .initialized RL, .code yL_low cL_low 2 (some .int)] [499, 500, 10, 501] rfl (by decide +kernel), rfl, ⟨by decide +kernel, by decide +kernel, by decide +kernel⟩⟩
set_option maxRecDepth 100000 in
theorem ckL_55 : CkV RL 55 yX6_set cX6_set 4 (some .int) 2 := ⟨in_p [.methodLink RL 55 yX6_set, .instanceMethod yX6_set, .selects yX6_set.cls yX6_set yX6_set, .initialized yX6_set.cls, .code yX6_set cX6_set 4 (some .int)] [503, 504, 505, 11, 506] rfl (by decide +kernel), ⟨by decide +kernel, by decide +kernel, by decide +kernel⟩⟩
set_option maxRecDepth 100000 in
theorem ckL_58 : CkV RL 58 yX6_silence cX6_silence 4 (some .int) 2 := ⟨in_p [.methodLink RL 58 yX6_silence, .instanceMethod yX6_silence, .selects yX6_silence.cls yX6_silence yX6_silence, .initialized yX6_silence.cls, .code yX6_silence cX6_silence 4 (some .int)] [564, 565, 566, 11, 567] rfl (by decide +kernel), ⟨by decide +kernel, by decide +kernel, by decide +kernel⟩⟩
set_option maxRecDepth 100000 in
theorem ckL_61 : CkV RL 61 yX6_singAlong cX6_singAlong 5 (some .int) 3 := ⟨in_p [.methodLink RL 61 yX6_singAlong, .instanceMethod yX6_singAlong, .selects yX6_singAlong.cls yX6_singAlong yX6_singAlong, .initialized yX6_singAlong.cls, .code yX6_singAlong cX6_singAlong 5 (some .int)] [542, 543, 544, 11, 545] rfl (by decide +kernel), ⟨by decide +kernel, by decide +kernel, by decide +kernel⟩⟩
set_option maxRecDepth 100000 in
theorem ckL_65 : CkV RL 65 yX6_undo cX6_undo 1 (some .int) 0 := ⟨in_p [.methodLink RL 65 yX6_undo, .instanceMethod yX6_undo, .selects yX6_undo.cls yX6_undo yX6_undo, .initialized yX6_undo.cls, .code yX6_undo cX6_undo 1 (some .int)] [571, 572, 573, 11, 574] rfl (by decide +kernel), ⟨by decide +kernel, by decide +kernel, by decide +kernel⟩⟩
set_option maxRecDepth 100000 in
theorem ckL_68 : CkV RL 68 yX6_add cX6_add 6 (some .int) 5 := ⟨in_p [.methodLink RL 68 yX6_add, .instanceMethod yX6_add, .selects yX6_add.cls yX6_add yX6_add, .initialized yX6_add.cls, .code yX6_add cX6_add 6 (some .int)] [520, 521, 522, 11, 523] rfl (by decide +kernel), ⟨by decide +kernel, by decide +kernel, by decide +kernel⟩⟩
set_option maxRecDepth 100000 in
theorem ckL_72 : CkV RL 72 yX6_drop cX6_drop 1 (some .int) 0 := ⟨in_p [.methodLink RL 72 yX6_drop, .instanceMethod yX6_drop, .selects yX6_drop.cls yX6_drop yX6_drop, .initialized yX6_drop.cls, .code yX6_drop cX6_drop 1 (some .int)] [534, 535, 536, 11, 537] rfl (by decide +kernel), ⟨by decide +kernel, by decide +kernel, by decide +kernel⟩⟩
set_option maxRecDepth 100000 in
theorem ckL_75 : CkV RL 75 yX6_sing cX6_sing 4 (some .int) 3 := ⟨in_p [.methodLink RL 75 yX6_sing, .instanceMethod yX6_sing, .selects yX6_sing.cls yX6_sing yX6_sing, .initialized yX6_sing.cls, .code yX6_sing cX6_sing 4 (some .int)] [553, 554, 555, 11, 556] rfl (by decide +kernel), ⟨by decide +kernel, by decide +kernel, by decide +kernel⟩⟩
set_option maxRecDepth 100000 in
theorem ckL_78 : CkS RL 78 yL_alone cL_alone 7 (some .boolean) 2 := ⟨in_p [.methodLink RL 78 yL_alone, .static yL_alone, .initialized RL, .code yL_alone cL_alone 7 (some .boolean)] [568, 569, 10, 570] rfl (by decide +kernel), rfl, ⟨by decide +kernel, by decide +kernel, by decide +kernel⟩⟩
set_option maxRecDepth 100000 in
theorem ckL_81 : CkS RL 81 yL_octaves cL_octaves 3 (some .boolean) 1 := ⟨in_p [.methodLink RL 81 yL_octaves, .static yL_octaves, .initialized RL, .code yL_octaves cL_octaves 3 (some .boolean)] [579, 580, 10, 581] rfl (by decide +kernel), rfl, ⟨by decide +kernel, by decide +kernel, by decide +kernel⟩⟩
set_option maxRecDepth 100000 in
theorem ckL_85 : CkS RL 85 yL_shifts cL_shifts 9 (some .boolean) 2 := ⟨in_p [.methodLink RL 85 yL_shifts, .static yL_shifts, .initialized RL, .code yL_shifts cL_shifts 9 (some .boolean)] [481, 482, 10, 483] rfl (by decide +kernel), rfl, ⟨by decide +kernel, by decide +kernel, by decide +kernel⟩⟩
