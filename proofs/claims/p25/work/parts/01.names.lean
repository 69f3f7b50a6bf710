-- ===== PART A: goes FIRST, ahead of the names: the tables' words, and 'selects' of the private methods out of them =====
/-- a private method of a class that the tables say can be made, by its rows of tables_1 -/
def lw_okq (q : MethodName × Nat) : Prop := (q.1.cls ≠ "java/lang/invoke/MethodHandle" ∧ q.1.cls ≠ "java/lang/invoke/VarHandle") ∧ Cond.instantiable q.1.cls q.2 ∈ tables_1 ∧ Cond.privateMethod q.1 ∈ tables_1 ∧ Cond.instanceMethod q.1 ∈ tables_1
theorem lw_p0 : lw_okq (⟨"SungSlides", "hitsNow", "()I"⟩, 8) := ⟨⟨by decide +kernel, by decide +kernel⟩, List.mem_of_getElem? (i := 11) (by decide +kernel), List.mem_of_getElem? (i := 242) (by decide +kernel), List.mem_of_getElem? (i := 243) (by decide +kernel)⟩
theorem lw_p1 : lw_okq (⟨"SungSlides$Judge", "hear", "(LSungSlides$State;I)V"⟩, 12) := ⟨⟨by decide +kernel, by decide +kernel⟩, List.mem_of_getElem? (i := 114) (by decide +kernel), List.mem_of_getElem? (i := 251) (by decide +kernel), List.mem_of_getElem? (i := 252) (by decide +kernel)⟩
theorem lw_p2 : lw_okq (⟨"SungSlides$Judge", "reasonFor", "(III)I"⟩, 12) := ⟨⟨by decide +kernel, by decide +kernel⟩, List.mem_of_getElem? (i := 114) (by decide +kernel), List.mem_of_getElem? (i := 290) (by decide +kernel), List.mem_of_getElem? (i := 291) (by decide +kernel)⟩
theorem lw_p3 : lw_okq (⟨"SungSlides$Judge", "score", "(LSungSlides$Song;)V"⟩, 12) := ⟨⟨by decide +kernel, by decide +kernel⟩, List.mem_of_getElem? (i := 114) (by decide +kernel), List.mem_of_getElem? (i := 309) (by decide +kernel), List.mem_of_getElem? (i := 310) (by decide +kernel)⟩
theorem lw_p4 : lw_okq (⟨"SungSlides$Judge", "beginPhrase", "(I)V"⟩, 12) := ⟨⟨by decide +kernel, by decide +kernel⟩, List.mem_of_getElem? (i := 114) (by decide +kernel), List.mem_of_getElem? (i := 318) (by decide +kernel), List.mem_of_getElem? (i := 319) (by decide +kernel)⟩
theorem lw_p5 : lw_okq (⟨"SungSlides$Judge", "scoreOf", "(LSungSlides$Song;I)I"⟩, 12) := ⟨⟨by decide +kernel, by decide +kernel⟩, List.mem_of_getElem? (i := 114) (by decide +kernel), List.mem_of_getElem? (i := 323) (by decide +kernel), List.mem_of_getElem? (i := 324) (by decide +kernel)⟩
theorem lw_p6 : lw_okq (⟨"SungSlides", "pointsOf", "(LSungSlides$State;)I"⟩, 8) := ⟨⟨by decide +kernel, by decide +kernel⟩, List.mem_of_getElem? (i := 11) (by decide +kernel), List.mem_of_getElem? (i := 339) (by decide +kernel), List.mem_of_getElem? (i := 340) (by decide +kernel)⟩
theorem lw_p7 : lw_okq (⟨"SungSlides", "mostPoints", "()I"⟩, 8) := ⟨⟨by decide +kernel, by decide +kernel⟩, List.mem_of_getElem? (i := 11) (by decide +kernel), List.mem_of_getElem? (i := 343) (by decide +kernel), List.mem_of_getElem? (i := 344) (by decide +kernel)⟩
theorem lw_p8 : lw_okq (⟨"SungSlides", "pointsIfShifted", "(II)I"⟩, 8) := ⟨⟨by decide +kernel, by decide +kernel⟩, List.mem_of_getElem? (i := 11) (by decide +kernel), List.mem_of_getElem? (i := 376) (by decide +kernel), List.mem_of_getElem? (i := 377) (by decide +kernel)⟩
theorem lw_p9 : lw_okq (⟨"SungSlides$History", "dropOldest", "()V"⟩, 2) := ⟨⟨by decide +kernel, by decide +kernel⟩, List.mem_of_getElem? (i := 68) (by decide +kernel), List.mem_of_getElem? (i := 502) (by decide +kernel), List.mem_of_getElem? (i := 503) (by decide +kernel)⟩
def lw_privs_1 : List (MethodName × Nat) := [(⟨"SungSlides", "hitsNow", "()I"⟩, 8), (⟨"SungSlides$Judge", "hear", "(LSungSlides$State;I)V"⟩, 12), (⟨"SungSlides$Judge", "reasonFor", "(III)I"⟩, 12), (⟨"SungSlides$Judge", "score", "(LSungSlides$Song;)V"⟩, 12), (⟨"SungSlides$Judge", "beginPhrase", "(I)V"⟩, 12), (⟨"SungSlides$Judge", "scoreOf", "(LSungSlides$Song;I)I"⟩, 12), (⟨"SungSlides", "pointsOf", "(LSungSlides$State;)I"⟩, 8), (⟨"SungSlides", "mostPoints", "()I"⟩, 8), (⟨"SungSlides", "pointsIfShifted", "(II)I"⟩, 8), (⟨"SungSlides$History", "dropOldest", "()V"⟩, 2)]
theorem lw_r1 : ∀ q ∈ lw_privs_1, lw_okq q := List.forall_mem_cons.mpr ⟨lw_p0, List.forall_mem_cons.mpr ⟨lw_p1, List.forall_mem_cons.mpr ⟨lw_p2, List.forall_mem_cons.mpr ⟨lw_p3, List.forall_mem_cons.mpr ⟨lw_p4, List.forall_mem_cons.mpr ⟨lw_p5, List.forall_mem_cons.mpr ⟨lw_p6, List.forall_mem_cons.mpr ⟨lw_p7, List.forall_mem_cons.mpr ⟨lw_p8, List.forall_mem_cons.mpr ⟨lw_p9, fun _ h => absurd h List.not_mem_nil⟩⟩⟩⟩⟩⟩⟩⟩⟩⟩
def lw_privs : List (MethodName × Nat) := lw_privs_1
def lw_tbl : List Cond := k2_sels lw_privs ++ tables_1
theorem lw_privs_ok : ∀ q ∈ lw_privs, lw_okq q := lw_r1

def RX0 : String := "SungSlides$History"
def TX0 : u_T := fun k => match k with
  | 0 => ("SungSlides$History", "states", "[LSungSlides$State;", true)
  | _ => ("SungSlides$History", "count", "I", false)
def tyX0 : Nat → FieldType := fun k => match k with
  | 0 => .array (.object "SungSlides$State")
  | _ => .int
abbrev wsX00 : List Cond := u_ws RX0 TX0 2
theorem nmX0 : ∀ a, a < 2 → ∀ b, b < 2 → a ≠ b → (TX0 a).2.1 ≠ (TX0 b).2.1 := by decide +kernel
theorem tyX0_ok : ∀ k, k < 2 → parseFieldDescriptor (TX0 k).2.2.1 = some (tyX0 k) := by decide +kernel
abbrev cX0_init : ByteArray := prog_2_method_1_code
def yX0_init : MethodName := ⟨RX0, "<init>", "()V"⟩
abbrev cX0_size : ByteArray := prog_2_method_2_code
def yX0_size : MethodName := ⟨RX0, "size", "()I"⟩
abbrev cX0_record : ByteArray := prog_2_method_3_code
def yX0_record : MethodName := ⟨RX0, "record", "(LSungSlides$State;)V"⟩
abbrev cX0_dropOldest : ByteArray := prog_2_method_4_code
def yX0_dropOldest : MethodName := ⟨RX0, "dropOldest", "()V"⟩
abbrev cX0_takeBackInto : ByteArray := prog_2_method_5_code
def yX0_takeBackInto : MethodName := ⟨RX0, "takeBackInto", "(LSungSlides$State;)I"⟩
def RX1 : String := "SungSlides$Judge"
def TX1 : u_T := fun k => match k with
  | 0 => ("SungSlides$Judge", "matches", "[I", true)
  | 1 => ("SungSlides$Judge", "shares", "[I", true)
  | 2 => ("SungSlides$Judge", "heldLines", "[I", true)
  | 3 => ("SungSlides$Judge", "onsets", "[I", true)
  | 4 => ("SungSlides$Judge", "reasons", "[I", true)
  | 5 => ("SungSlides$Judge", "rowsAhead", "[I", true)
  | 6 => ("SungSlides$Judge", "syllablePoints", "[I", true)
  | 7 => ("SungSlides$Judge", "phraseHits", "[I", true)
  | 8 => ("SungSlides$Judge", "phrasePoints", "[I", true)
  | 9 => ("SungSlides$Judge", "longestRows", "[I", true)
  | 10 => ("SungSlides$Judge", "hits", "I", false)
  | _ => ("SungSlides$Judge", "points", "I", false)
def tyX1 : Nat → FieldType := fun k => match k with
  | 0 => .array .int
  | 1 => .array .int
  | 2 => .array .int
  | 3 => .array .int
  | 4 => .array .int
  | 5 => .array .int
  | 6 => .array .int
  | 7 => .array .int
  | 8 => .array .int
  | 9 => .array .int
  | 10 => .int
  | _ => .int
abbrev wsX10 : List Cond := u_ws RX1 TX1 12
theorem nmX1 : ∀ a, a < 12 → ∀ b, b < 12 → a ≠ b → (TX1 a).2.1 ≠ (TX1 b).2.1 := by decide +kernel
theorem tyX1_ok : ∀ k, k < 12 → parseFieldDescriptor (TX1 k).2.2.1 = some (tyX1 k) := by decide +kernel
abbrev cX1_init : ByteArray := prog_3_method_1_code
def yX1_init : MethodName := ⟨RX1, "<init>", "()V"⟩
abbrev cX1_judge : ByteArray := prog_3_method_2_code
def yX1_judge : MethodName := ⟨RX1, "judge", "(LSungSlides$State;)V"⟩
abbrev cX1_judgePerfect : ByteArray := prog_3_method_3_code
def yX1_judgePerfect : MethodName := ⟨RX1, "judgePerfect", "(LSungSlides$State;)V"⟩
abbrev cX1_hear : ByteArray := prog_3_method_4_code
def yX1_hear : MethodName := ⟨RX1, "hear", "(LSungSlides$State;I)V"⟩
abbrev cX1_isBarLine : ByteArray := prog_3_method_5_code
def yX1_isBarLine : MethodName := ⟨RX1, "isBarLine", "(II)Z"⟩
abbrev cX1_reasonFor : ByteArray := prog_3_method_6_code
def yX1_reasonFor : MethodName := ⟨RX1, "reasonFor", "(III)I"⟩
abbrev cX1_score : ByteArray := prog_3_method_7_code
def yX1_score : MethodName := ⟨RX1, "score", "(LSungSlides$Song;)V"⟩
abbrev cX1_beginPhrase : ByteArray := prog_3_method_8_code
def yX1_beginPhrase : MethodName := ⟨RX1, "beginPhrase", "(I)V"⟩
abbrev cX1_scoreOf : ByteArray := prog_3_method_9_code
def yX1_scoreOf : MethodName := ⟨RX1, "scoreOf", "(LSungSlides$Song;I)I"⟩
abbrev cX1_extraOf : ByteArray := prog_3_method_10_code
def yX1_extraOf : MethodName := ⟨RX1, "extraOf", "(II)I"⟩
abbrev cX1_valueIn : ByteArray := prog_3_method_11_code
def yX1_valueIn : MethodName := ⟨RX1, "valueIn", "([II)I"⟩
abbrev cX1_matchesOf : ByteArray := prog_3_method_12_code
def yX1_matchesOf : MethodName := ⟨RX1, "matchesOf", "(I)I"⟩
abbrev cX1_shareOf : ByteArray := prog_3_method_13_code
def yX1_shareOf : MethodName := ⟨RX1, "shareOf", "(I)I"⟩
abbrev cX1_onsetOf : ByteArray := prog_3_method_14_code
def yX1_onsetOf : MethodName := ⟨RX1, "onsetOf", "(I)I"⟩
abbrev cX1_reasonOf : ByteArray := prog_3_method_15_code
def yX1_reasonOf : MethodName := ⟨RX1, "reasonOf", "(I)I"⟩
abbrev cX1_pointsOf : ByteArray := prog_3_method_16_code
def yX1_pointsOf : MethodName := ⟨RX1, "pointsOf", "(I)I"⟩
abbrev cX1_rowAheadOf : ByteArray := prog_3_method_17_code
def yX1_rowAheadOf : MethodName := ⟨RX1, "rowAheadOf", "(I)I"⟩
abbrev cX1_phraseHitsOf : ByteArray := prog_3_method_18_code
def yX1_phraseHitsOf : MethodName := ⟨RX1, "phraseHitsOf", "(I)I"⟩
abbrev cX1_phrasePointsOf : ByteArray := prog_3_method_19_code
def yX1_phrasePointsOf : MethodName := ⟨RX1, "phrasePointsOf", "(I)I"⟩
abbrev cX1_longestRowOf : ByteArray := prog_3_method_20_code
def yX1_longestRowOf : MethodName := ⟨RX1, "longestRowOf", "(I)I"⟩
def RX2 : String := "SungSlides$Reader"
def TX2 : u_T := fun k => match k with
  | 0 => ("SungSlides$Reader", "place", "I", false)
  | 1 => ("SungSlides$Reader", "hasFault", "Z", false)
  | _ => ("SungSlides$Reader", "isTooLong", "Z", false)
def tyX2 : Nat → FieldType := fun k => match k with
  | 0 => .int
  | 1 => .boolean
  | _ => .boolean
abbrev wsX20 : List Cond := u_ws RX2 TX2 3
theorem nmX2 : ∀ a, a < 3 → ∀ b, b < 3 → a ≠ b → (TX2 a).2.1 ≠ (TX2 b).2.1 := by decide +kernel
theorem tyX2_ok : ∀ k, k < 3 → parseFieldDescriptor (TX2 k).2.2.1 = some (tyX2 k) := by decide +kernel
abbrev cX2_init : ByteArray := prog_4_method_1_code
def yX2_init : MethodName := ⟨RX2, "<init>", "()V"⟩
def RX3 : String := "SungSlides$Song"
def TX3 : u_T := fun k => match k with
  | 0 => ("SungSlides$Song", "beginnings", "[I", true)
  | 1 => ("SungSlides$Song", "lengths", "[I", true)
  | 2 => ("SungSlides$Song", "pitches", "[I", true)
  | 3 => ("SungSlides$Song", "endPitches", "[I", true)
  | 4 => ("SungSlides$Song", "phrases", "[I", true)
  | _ => ("SungSlides$Song", "count", "I", false)
def tyX3 : Nat → FieldType := fun k => match k with
  | 0 => .array .int
  | 1 => .array .int
  | 2 => .array .int
  | 3 => .array .int
  | 4 => .array .int
  | _ => .int
abbrev wsX30 : List Cond := u_ws RX3 TX3 6
theorem nmX3 : ∀ a, a < 6 → ∀ b, b < 6 → a ≠ b → (TX3 a).2.1 ≠ (TX3 b).2.1 := by decide +kernel
theorem tyX3_ok : ∀ k, k < 6 → parseFieldDescriptor (TX3 k).2.2.1 = some (tyX3 k) := by decide +kernel
abbrev cX3_init : ByteArray := prog_5_method_1_code
def yX3_init : MethodName := ⟨RX3, "<init>", "()V"⟩
abbrev cX3_size : ByteArray := prog_5_method_2_code
def yX3_size : MethodName := ⟨RX3, "size", "()I"⟩
abbrev cX3_has : ByteArray := prog_5_method_3_code
def yX3_has : MethodName := ⟨RX3, "has", "(I)Z"⟩
abbrev cX3_beginningOf : ByteArray := prog_5_method_4_code
def yX3_beginningOf : MethodName := ⟨RX3, "beginningOf", "(I)I"⟩
abbrev cX3_lengthOf : ByteArray := prog_5_method_5_code
def yX3_lengthOf : MethodName := ⟨RX3, "lengthOf", "(I)I"⟩
abbrev cX3_pitchOf : ByteArray := prog_5_method_6_code
def yX3_pitchOf : MethodName := ⟨RX3, "pitchOf", "(I)I"⟩
abbrev cX3_endPitchOf : ByteArray := prog_5_method_7_code
def yX3_endPitchOf : MethodName := ⟨RX3, "endPitchOf", "(I)I"⟩
abbrev cX3_phraseOf : ByteArray := prog_5_method_8_code
def yX3_phraseOf : MethodName := ⟨RX3, "phraseOf", "(I)I"⟩
abbrev cX3_ticks : ByteArray := prog_5_method_9_code
def yX3_ticks : MethodName := ⟨RX3, "ticks", "()I"⟩
abbrev cX3_phraseCount : ByteArray := prog_5_method_10_code
def yX3_phraseCount : MethodName := ⟨RX3, "phraseCount", "()I"⟩
abbrev cX3_firstOfPhrase : ByteArray := prog_5_method_11_code
def yX3_firstOfPhrase : MethodName := ⟨RX3, "firstOfPhrase", "(I)I"⟩
abbrev cX3_sizeOfPhrase : ByteArray := prog_5_method_12_code
def yX3_sizeOfPhrase : MethodName := ⟨RX3, "sizeOfPhrase", "(I)I"⟩
abbrev cX3_beginsPhrase : ByteArray := prog_5_method_13_code
def yX3_beginsPhrase : MethodName := ⟨RX3, "beginsPhrase", "(I)Z"⟩
abbrev cX3_wantedOf : ByteArray := prog_5_method_14_code
def yX3_wantedOf : MethodName := ⟨RX3, "wantedOf", "(II)I"⟩
abbrev cX3_barLinesOf : ByteArray := prog_5_method_15_code
def yX3_barLinesOf : MethodName := ⟨RX3, "barLinesOf", "(II)I"⟩
abbrev cX3_hasRoomFor : ByteArray := prog_5_method_16_code
def yX3_hasRoomFor : MethodName := ⟨RX3, "hasRoomFor", "(II)Z"⟩
abbrev cX3_append : ByteArray := prog_5_method_17_code
def yX3_append : MethodName := ⟨RX3, "append", "(IIIIZ)I"⟩
abbrev cX3_removeLast : ByteArray := prog_5_method_18_code
def yX3_removeLast : MethodName := ⟨RX3, "removeLast", "()I"⟩
abbrev cX3_copyFrom : ByteArray := prog_5_method_20_code
def yX3_copyFrom : MethodName := ⟨RX3, "copyFrom", "(LSungSlides$Song;)V"⟩
def RX4 : String := "SungSlides$State"
def TX4 : u_T := fun k => match k with
  | 0 => ("SungSlides$State", "song", "LSungSlides$Song;", true)
  | 1 => ("SungSlides$State", "settings", "[I", true)
  | _ => ("SungSlides$State", "pitches", "[I", true)
def tyX4 : Nat → FieldType := fun k => match k with
  | 0 => .object "SungSlides$Song"
  | 1 => .array .int
  | _ => .array .int
abbrev wsX40 : List Cond := u_ws RX4 TX4 3
theorem nmX4 : ∀ a, a < 3 → ∀ b, b < 3 → a ≠ b → (TX4 a).2.1 ≠ (TX4 b).2.1 := by decide +kernel
theorem tyX4_ok : ∀ k, k < 3 → parseFieldDescriptor (TX4 k).2.2.1 = some (tyX4 k) := by decide +kernel
abbrev cX4_init : ByteArray := prog_6_method_1_code
def yX4_init : MethodName := ⟨RX4, "<init>", "()V"⟩
abbrev cX4_copyFrom : ByteArray := prog_6_method_2_code
def yX4_copyFrom : MethodName := ⟨RX4, "copyFrom", "(LSungSlides$State;)V"⟩
abbrev cX4_setting : ByteArray := prog_6_method_3_code
def yX4_setting : MethodName := ⟨RX4, "setting", "(I)I"⟩
abbrev cX4_change : ByteArray := prog_6_method_4_code
def yX4_change : MethodName := ⟨RX4, "change", "(II)V"⟩
abbrev cX4_sungAt : ByteArray := prog_6_method_5_code
def yX4_sungAt : MethodName := ⟨RX4, "sungAt", "(I)I"⟩
abbrev cX4_voiceAt : ByteArray := prog_6_method_6_code
def yX4_voiceAt : MethodName := ⟨RX4, "voiceAt", "(II)V"⟩
abbrev cX4_voice : ByteArray := prog_6_method_7_code
def yX4_voice : MethodName := ⟨RX4, "voice", "(III)V"⟩
abbrev cX4_voiceAsWanted : ByteArray := prog_6_method_8_code
def yX4_voiceAsWanted : MethodName := ⟨RX4, "voiceAsWanted", "(II)V"⟩
abbrev cX4_voiceShifted : ByteArray := prog_6_method_9_code
def yX4_voiceShifted : MethodName := ⟨RX4, "voiceShifted", "(LSungSlides$State;II)V"⟩
abbrev cX4_soundingTicks : ByteArray := prog_6_method_10_code
def yX4_soundingTicks : MethodName := ⟨RX4, "soundingTicks", "()I"⟩
abbrev cX4_isOnset : ByteArray := prog_6_method_11_code
def yX4_isOnset : MethodName := ⟨RX4, "isOnset", "(I)Z"⟩
abbrev cX4_onsets : ByteArray := prog_6_method_12_code
def yX4_onsets : MethodName := ⟨RX4, "onsets", "()I"⟩
abbrev cX4_onsetNear : ByteArray := prog_6_method_13_code
def yX4_onsetNear : MethodName := ⟨RX4, "onsetNear", "(I)I"⟩
abbrev cX4_isMatch : ByteArray := prog_6_method_14_code
def yX4_isMatch : MethodName := ⟨RX4, "isMatch", "(II)Z"⟩
def RX5 : String := "SungSlides$Text"
def TX5 : u_T := fun k => match k with
  | 0 => ("SungSlides$Text", "characters", "[C", true)
  | _ => ("SungSlides$Text", "count", "I", false)
def tyX5 : Nat → FieldType := fun k => match k with
  | 0 => .array .char
  | _ => .int
abbrev wsX50 : List Cond := u_ws RX5 TX5 2
theorem nmX5 : ∀ a, a < 2 → ∀ b, b < 2 → a ≠ b → (TX5 a).2.1 ≠ (TX5 b).2.1 := by decide +kernel
theorem tyX5_ok : ∀ k, k < 2 → parseFieldDescriptor (TX5 k).2.2.1 = some (tyX5 k) := by decide +kernel
abbrev cX5_init : ByteArray := prog_7_method_1_code
def yX5_init : MethodName := ⟨RX5, "<init>", "()V"⟩
abbrev cX5_size : ByteArray := prog_7_method_2_code
def yX5_size : MethodName := ⟨RX5, "size", "()I"⟩
def RX6 : String := "SungSlides"
def TX6 : u_T := fun k => match k with
  | 0 => ("SungSlides", "now", "LSungSlides$State;", true)
  | 1 => ("SungSlides", "would", "LSungSlides$State;", true)
  | 2 => ("SungSlides", "snapshot", "LSungSlides$State;", true)
  | 3 => ("SungSlides", "hasSnapshot", "Z", false)
  | 4 => ("SungSlides", "history", "LSungSlides$History;", true)
  | 5 => ("SungSlides", "text", "LSungSlides$Text;", true)
  | 6 => ("SungSlides", "reader", "LSungSlides$Reader;", true)
  | _ => ("SungSlides", "judge", "LSungSlides$Judge;", true)
def tyX6 : Nat → FieldType := fun k => match k with
  | 0 => .object "SungSlides$State"
  | 1 => .object "SungSlides$State"
  | 2 => .object "SungSlides$State"
  | 3 => .boolean
  | 4 => .object "SungSlides$History"
  | 5 => .object "SungSlides$Text"
  | 6 => .object "SungSlides$Reader"
  | _ => .object "SungSlides$Judge"
abbrev wsX60 : List Cond := u_ws RX6 TX6 8
theorem nmX6 : ∀ a, a < 8 → ∀ b, b < 8 → a ≠ b → (TX6 a).2.1 ≠ (TX6 b).2.1 := by decide +kernel
theorem tyX6_ok : ∀ k, k < 8 → parseFieldDescriptor (TX6 k).2.2.1 = some (tyX6 k) := by decide +kernel
abbrev cX6_init : ByteArray := prog_1_method_1_code
def yX6_init : MethodName := ⟨RX6, "<init>", "()V"⟩
abbrev cX6_add : ByteArray := prog_1_method_2_code
def yX6_add : MethodName := ⟨RX6, "add", "(IIIIZ)I"⟩
abbrev cX6_drop : ByteArray := prog_1_method_3_code
def yX6_drop : MethodName := ⟨RX6, "drop", "()I"⟩
abbrev cX6_set : ByteArray := prog_1_method_5_code
def yX6_set : MethodName := ⟨RX6, "set", "(II)I"⟩
abbrev cX6_sing : ByteArray := prog_1_method_6_code
def yX6_sing : MethodName := ⟨RX6, "sing", "(III)I"⟩
abbrev cX6_silence : ByteArray := prog_1_method_7_code
def yX6_silence : MethodName := ⟨RX6, "silence", "(II)I"⟩
abbrev cX6_singAlong : ByteArray := prog_1_method_8_code
def yX6_singAlong : MethodName := ⟨RX6, "singAlong", "(III)I"⟩
abbrev cX6_undo : ByteArray := prog_1_method_11_code
def yX6_undo : MethodName := ⟨RX6, "undo", "()I"⟩
abbrev cX6_syllable : ByteArray := prog_1_method_14_code
def yX6_syllable : MethodName := ⟨RX6, "syllable", "(II)I"⟩
abbrev cX6_wanted : ByteArray := prog_1_method_15_code
def yX6_wanted : MethodName := ⟨RX6, "wanted", "(I)I"⟩
abbrev cX6_sung : ByteArray := prog_1_method_16_code
def yX6_sung : MethodName := ⟨RX6, "sung", "(I)I"⟩
abbrev cX6_lit : ByteArray := prog_1_method_17_code
def yX6_lit : MethodName := ⟨RX6, "lit", "(II)I"⟩
abbrev cX6_phrase : ByteArray := prog_1_method_18_code
def yX6_phrase : MethodName := ⟨RX6, "phrase", "(II)I"⟩
abbrev cX6_total : ByteArray := prog_1_method_19_code
def yX6_total : MethodName := ⟨RX6, "total", "(I)I"⟩
abbrev cX6_ifShifted : ByteArray := prog_1_method_20_code
def yX6_ifShifted : MethodName := ⟨RX6, "ifShifted", "(II)I"⟩
abbrev cX6_bestShift : ByteArray := prog_1_method_21_code
def yX6_bestShift : MethodName := ⟨RX6, "bestShift", "()I"⟩
abbrev cX6_ifSet : ByteArray := prog_1_method_22_code
def yX6_ifSet : MethodName := ⟨RX6, "ifSet", "(II)I"⟩
abbrev cX6_worst : ByteArray := prog_1_method_23_code
def yX6_worst : MethodName := ⟨RX6, "worst", "()I"⟩
abbrev cX6_isWithin : ByteArray := prog_1_method_24_code
def yX6_isWithin : MethodName := ⟨RX6, "isWithin", "(III)Z"⟩
abbrev cX6_isSetting : ByteArray := prog_1_method_25_code
def yX6_isSetting : MethodName := ⟨RX6, "isSetting", "(I)Z"⟩
abbrev cX6_isValueOf : ByteArray := prog_1_method_26_code
def yX6_isValueOf : MethodName := ⟨RX6, "isValueOf", "(II)Z"⟩
abbrev cX6_areTicks : ByteArray := prog_1_method_27_code
def yX6_areTicks : MethodName := ⟨RX6, "areTicks", "(III)Z"⟩
abbrev cX6_hitsNow : ByteArray := prog_1_method_28_code
def yX6_hitsNow : MethodName := ⟨RX6, "hitsNow", "()I"⟩
abbrev cX6_pointsOf : ByteArray := prog_1_method_29_code
def yX6_pointsOf : MethodName := ⟨RX6, "pointsOf", "(LSungSlides$State;)I"⟩
abbrev cX6_mostPoints : ByteArray := prog_1_method_30_code
def yX6_mostPoints : MethodName := ⟨RX6, "mostPoints", "()I"⟩
abbrev cX6_pointsIfShifted : ByteArray := prog_1_method_31_code
def yX6_pointsIfShifted : MethodName := ⟨RX6, "pointsIfShifted", "(II)I"⟩
def RX7 : String := "SungSlidesModel"
def TX7 : u_T := fun k => match k with
  | _ => ("", "", "", false)
def tyX7 : Nat → FieldType := fun k => match k with
  | _ => .int
abbrev wsX70 : List Cond := u_ws RX7 TX7 0
theorem nmX7 : ∀ a, a < 0 → ∀ b, b < 0 → a ≠ b → (TX7 a).2.1 ≠ (TX7 b).2.1 := by decide +kernel
theorem tyX7_ok : ∀ k, k < 0 → parseFieldDescriptor (TX7 k).2.2.1 = some (tyX7 k) := by decide +kernel
def RL : String := "SungSlidesLaw"
abbrev cL_cell : ByteArray := method_2_code
def yL_cell : MethodName := ⟨RL, "cell", "([II)I"⟩
abbrev cL_low : ByteArray := method_3_code
def yL_low : MethodName := ⟨RL, "low", "(II)I"⟩
abbrev cL_isSyllable : ByteArray := method_4_code
def yL_isSyllable : MethodName := ⟨RL, "isSyllable", "(LSungSlides;I)Z"⟩
abbrev cL_holds : ByteArray := method_5_code
def yL_holds : MethodName := ⟨RL, "holds", "(LSungSlides;)Z"⟩
abbrev cL_shifts : ByteArray := method_6_code
def yL_shifts : MethodName := ⟨RL, "shifts", "(LSungSlides;I)Z"⟩
abbrev cL_alone : ByteArray := method_7_code
def yL_alone : MethodName := ⟨RL, "alone", "(LSungSlides;I)Z"⟩
abbrev cL_octaves : ByteArray := method_8_code
def yL_octaves : MethodName := ⟨RL, "octaves", "(LSungSlides;)Z"⟩
abbrev cL_act : ByteArray := method_9_code
def yL_act : MethodName := ⟨RL, "act", "(LSungSlides;II)Z"⟩
abbrev cL_law : ByteArray := code
def yL_law : MethodName := ⟨RL, "law", "([I)Z"⟩
abbrev vwCl : List vw_C := [(RX0, TX0, 2), (RX1, TX1, 12), (RX2, TX2, 3), (RX3, TX3, 6), (RX4, TX4, 3), (RX5, TX5, 2), (RX6, TX6, 8)]
