section
-- ===== PART A: goes FIRST, ahead of the names: the tables' words, and 'selects' of the private methods out of them =====
/-- a private method of a class that the tables say can be made, by its rows of tables_1 -/
def lw_okq (q : MethodName × Nat) : Prop := (q.1.cls ≠ "java/lang/invoke/MethodHandle" ∧ q.1.cls ≠ "java/lang/invoke/VarHandle") ∧ Cond.instantiable q.1.cls q.2 ∈ tables_1 ∧ Cond.privateMethod q.1 ∈ tables_1 ∧ Cond.instanceMethod q.1 ∈ tables_1
theorem lw_p0 : lw_okq (⟨"SungSlides", "hitsNow", "()I"⟩, 8) := ⟨⟨by decide +kernel, by decide +kernel⟩, List.mem_of_getElem? (i := 11) (by decide +kernel), List.mem_of_getElem? (i := 242) (by decide +kernel), List.mem_of_getElem? (i := 243) (by decide +kernel)⟩
theorem lw_p1 : lw_okq (⟨"SungSlides$Judge", "hear", "(LSungSlides$State;I)V"⟩, 12) := ⟨⟨by decide +kernel, by decide +kernel⟩, List.mem_of_getElem? (i := 114) (by decide +kernel), List.mem_of_getElem? (i := 251) (by decide +kernel), List.mem_of_getElem? (i := 252) (by decide +kernel)⟩
theorem lw_p2 : lw_okq (⟨"SungSlides$Judge", "reasonFor", "(III)I"⟩, 12) := ⟨⟨by decide +kernel, by decide +kernel⟩, List.mem_of_getElem? (i := 114) (by decide +kernel), List.mem_of_getElem? (i := 290) (by decide +kernel), List.mem_of_getElem? (i := 291) (by decide +kernel)⟩
theorem lw_p3 : lw_okq (⟨"SungSlides$Judge", "score", "(LSungSlides$Song;)V"⟩, 12) := ⟨⟨by decide +kernel, by decide +kernel⟩, List.mem_of_getElem? (i := 114) (by decide +kernel), List.mem_of_getElem? (i := 309) (by decide +kernel), List.mem_of_getElem? (i := 310) (by decide +kernel)⟩
theorem lw_p4 : lw_okq (⟨"SungSlides$Judge", "beginPhrase", "(I)V"⟩, 12) := ⟨⟨by decide +kernel, by decide +kernel⟩, List.mem_of_getElem? (i := 114) (by decide +kernel), List.mem_of_getElem? (i := 318) (by decide +kernel), List.mem_of_getElem? (i := 319) (by decide +kernel)⟩
theorem lw_p5 : lw_okq (⟨"SungSlides$Judge", "scoreOf", "(LSungSlides$Song;I)I"⟩, 12) := ⟨⟨by decide +kernel, by decide +kernel⟩, List.mem_of_getElem? (i := 114) (by decide +kernel), List.mem_of_getElem? (i := 323) (by decide +kernel), List.mem_of_getElem? (i := 324) (by decide +kernel)⟩
theorem lw_p6 : lw_okq (⟨"SungSlides", "pointsOf", "(LSungSlides$State;)I"⟩, 8) := ⟨⟨by decide +kernel, by decide +kernel⟩, List.mem_of_getElem? (i := 11) (by decide +kernel), List.mem_of_getElem? (i := 339) (by decide +kernel), List.mem_of_getElem? (i := 340) (by decide +kernel)⟩
theorem lw_p7 : lw_okq (⟨"SungSlides", "mostPoints", "()I"⟩, 8) := ⟨⟨by decide +kernel, by decide +kernel⟩, List.mem_of_getElem? (i := 11) (by decide +kernel), List.mem_of_getElem? (i := 343) (by decide +kernel), List.mem_of_getElem? (i := 344) (by decide +kernel)⟩
theorem lw_p8 : lw_okq (⟨"SungSlides", "pointsIfShifted", "(II)I"⟩, 8) := ⟨⟨by decide +kernel, by decide +kernel⟩, List.mem_of_getElem? (i := 11) (by decide +kernel), List.mem_of_getElem? (i := 376) (by decide +kernel), List.mem_of_getElem? (i := 377) (by decide +kernel)⟩
theorem lw_p9 : lw_okq (⟨"SungSlides$History", "dropOldest", "()V"⟩, 2) := ⟨⟨by decide +kernel, by decide +kernel⟩, List.mem_of_getElem? (i := 68) (by decide +kernel), List.mem_of_getElem? (i := 502) (by decide +kernel), List.mem_of_getElem? (i := 503) (by decide +kernel)⟩
def lw_privs_1 : List (MethodName × Nat) := [(⟨"SungSlides", "hitsNow", "()I"⟩, 8), (⟨"SungSlides$Judge", "hear", "(LSungSlides$State;I)V"⟩, 12), (⟨"SungSlides$Judge", "reasonFor", "(III)I"⟩, 12), (⟨"SungSlides$Judge", "score", "(LSungSlides$Song;)V"⟩, 12), (⟨"SungSlides$Judge", "beginPhrase", "(I)V"⟩, 12), (⟨"SungSlides$Judge", "scoreOf", "(LSungSlides$Song;I)I"⟩, 12), (⟨"SungSlides", "pointsOf", "(LSungSlides$State;)I"⟩, 8), (⟨"SungSlides", "mostPoints", "()I"⟩, 8), (⟨"SungSlides", "pointsIfShifted", "(II)I"⟩, 8), (⟨"SungSlides$History", "dropOldest", "()V"⟩, 2)]
theorem lw_r1 : ∀ q ∈ lw_privs_1, lw_okq q := List.forall_mem_cons.mpr ⟨lw_p0, List.forall_mem_cons.mpr ⟨lw_p1, List.forall_mem_cons.mpr ⟨lw_p2, List.forall_mem_cons.mpr ⟨lw_p3, List.forall_mem_cons.mpr ⟨lw_p4, List.forall_mem_cons.mpr ⟨lw_p5, List.forall_mem_cons.mpr ⟨lw_p6, List.forall_mem_cons.mpr ⟨lw_p7, List.forall_mem_cons.mpr ⟨lw_p8, List.forall_mem_cons.mpr ⟨lw_p9, fun _ h => absurd h List.not_mem_nil⟩⟩⟩⟩⟩⟩⟩⟩⟩⟩
def lw_privs : List (MethodName × Nat) := lw_privs_1
def lw_tbl : List Cond := k2_sels lw_privs ++ tables_1
theorem lw_privs_ok : ∀ q ∈ lw_privs, lw_okq q := lw_r1

def RX0 : String := "SungSlides$History"
def TX0 : u_T := fun k => match k with
  | 0 => ("SungSlides$History", "states", "[LSungSlides$State;", true)
  | _ => ("SungSlides$History", "count", "I", false)
def tyX0 : Nat → FieldType := fun k => match k with
  | 0 => .array (.object "SungSlides$State")
  | _ => .int
abbrev wsX00 : List Cond := u_ws RX0 TX0 2
theorem nmX0 : ∀ a, a < 2 → ∀ b, b < 2 → a ≠ b → (TX0 a).2.1 ≠ (TX0 b).2.1 := by decide +kernel
theorem tyX0_ok : ∀ k, k < 2 → parseFieldDescriptor (TX0 k).2.2.1 = some (tyX0 k) := by decide +kernel
abbrev cX0_init : ByteArray := prog_2_method_1_code
def yX0_init : MethodName := ⟨RX0, "<init>", "()V"⟩
abbrev cX0_size : ByteArray := prog_2_method_2_code
def yX0_size : MethodName := ⟨RX0, "size", "()I"⟩
abbrev cX0_record : ByteArray := prog_2_method_3_code
def yX0_record : MethodName := ⟨RX0, "record", "(LSungSlides$State;)V"⟩
abbrev cX0_dropOldest : ByteArray := prog_2_method_4_code
def yX0_dropOldest : MethodName := ⟨RX0, "dropOldest", "()V"⟩
abbrev cX0_takeBackInto : ByteArray := prog_2_method_5_code
def yX0_takeBackInto : MethodName := ⟨RX0, "takeBackInto", "(LSungSlides$State;)I"⟩
def RX1 : String := "SungSlides$Judge"
def TX1 : u_T := fun k => match k with
  | 0 => ("SungSlides$Judge", "matches", "[I", true)
  | 1 => ("SungSlides$Judge", "shares", "[I", true)
  | 2 => ("SungSlides$Judge", "heldLines", "[I", true)
  | 3 => ("SungSlides$Judge", "onsets", "[I", true)
  | 4 => ("SungSlides$Judge", "reasons", "[I", true)
  | 5 => ("SungSlides$Judge", "rowsAhead", "[I", true)
  | 6 => ("SungSlides$Judge", "syllablePoints", "[I", true)
  | 7 => ("SungSlides$Judge", "phraseHits", "[I", true)
  | 8 => ("SungSlides$Judge", "phrasePoints", "[I", true)
  | 9 => ("SungSlides$Judge", "longestRows", "[I", true)
  | 10 => ("SungSlides$Judge", "hits", "I", false)
  | _ => ("SungSlides$Judge", "points", "I", false)
def tyX1 : Nat → FieldType := fun k => match k with
  | 0 => .array .int
  | 1 => .array .int
  | 2 => .array .int
  | 3 => .array .int
  | 4 => .array .int
  | 5 => .array .int
  | 6 => .array .int
  | 7 => .array .int
  | 8 => .array .int
  | 9 => .array .int
  | 10 => .int
  | _ => .int
abbrev wsX10 : List Cond := u_ws RX1 TX1 12
theorem nmX1 : ∀ a, a < 12 → ∀ b, b < 12 → a ≠ b → (TX1 a).2.1 ≠ (TX1 b).2.1 := by decide +kernel
theorem tyX1_ok : ∀ k, k < 12 → parseFieldDescriptor (TX1 k).2.2.1 = some (tyX1 k) := by decide +kernel
abbrev cX1_init : ByteArray := prog_3_method_1_code
def yX1_init : MethodName := ⟨RX1, "<init>", "()V"⟩
abbrev cX1_judge : ByteArray := prog_3_method_2_code
def yX1_judge : MethodName := ⟨RX1, "judge", "(LSungSlides$State;)V"⟩
abbrev cX1_judgePerfect : ByteArray := prog_3_method_3_code
def yX1_judgePerfect : MethodName := ⟨RX1, "judgePerfect", "(LSungSlides$State;)V"⟩
abbrev cX1_hear : ByteArray := prog_3_method_4_code
def yX1_hear : MethodName := ⟨RX1, "hear", "(LSungSlides$State;I)V"⟩
abbrev cX1_isBarLine : ByteArray := prog_3_method_5_code
def yX1_isBarLine : MethodName := ⟨RX1, "isBarLine", "(II)Z"⟩
abbrev cX1_reasonFor : ByteArray := prog_3_method_6_code
def yX1_reasonFor : MethodName := ⟨RX1, "reasonFor", "(III)I"⟩
abbrev cX1_score : ByteArray := prog_3_method_7_code
def yX1_score : MethodName := ⟨RX1, "score", "(LSungSlides$Song;)V"⟩
abbrev cX1_beginPhrase : ByteArray := prog_3_method_8_code
def yX1_beginPhrase : MethodName := ⟨RX1, "beginPhrase", "(I)V"⟩
abbrev cX1_scoreOf : ByteArray := prog_3_method_9_code
def yX1_scoreOf : MethodName := ⟨RX1, "scoreOf", "(LSungSlides$Song;I)I"⟩
abbrev cX1_extraOf : ByteArray := prog_3_method_10_code
def yX1_extraOf : MethodName := ⟨RX1, "extraOf", "(II)I"⟩
abbrev cX1_valueIn : ByteArray := prog_3_method_11_code
def yX1_valueIn : MethodName := ⟨RX1, "valueIn", "([II)I"⟩
abbrev cX1_matchesOf : ByteArray := prog_3_method_12_code
def yX1_matchesOf : MethodName := ⟨RX1, "matchesOf", "(I)I"⟩
abbrev cX1_shareOf : ByteArray := prog_3_method_13_code
def yX1_shareOf : MethodName := ⟨RX1, "shareOf", "(I)I"⟩
abbrev cX1_onsetOf : ByteArray := prog_3_method_14_code
def yX1_onsetOf : MethodName := ⟨RX1, "onsetOf", "(I)I"⟩
abbrev cX1_reasonOf : ByteArray := prog_3_method_15_code
def yX1_reasonOf : MethodName := ⟨RX1, "reasonOf", "(I)I"⟩
abbrev cX1_pointsOf : ByteArray := prog_3_method_16_code
def yX1_pointsOf : MethodName := ⟨RX1, "pointsOf", "(I)I"⟩
abbrev cX1_rowAheadOf : ByteArray := prog_3_method_17_code
def yX1_rowAheadOf : MethodName := ⟨RX1, "rowAheadOf", "(I)I"⟩
abbrev cX1_phraseHitsOf : ByteArray := prog_3_method_18_code
def yX1_phraseHitsOf : MethodName := ⟨RX1, "phraseHitsOf", "(I)I"⟩
abbrev cX1_phrasePointsOf : ByteArray := prog_3_method_19_code
def yX1_phrasePointsOf : MethodName := ⟨RX1, "phrasePointsOf", "(I)I"⟩
abbrev cX1_longestRowOf : ByteArray := prog_3_method_20_code
def yX1_longestRowOf : MethodName := ⟨RX1, "longestRowOf", "(I)I"⟩
def RX2 : String := "SungSlides$Reader"
def TX2 : u_T := fun k => match k with
  | 0 => ("SungSlides$Reader", "place", "I", false)
  | 1 => ("SungSlides$Reader", "hasFault", "Z", false)
  | _ => ("SungSlides$Reader", "isTooLong", "Z", false)
def tyX2 : Nat → FieldType := fun k => match k with
  | 0 => .int
  | 1 => .boolean
  | _ => .boolean
abbrev wsX20 : List Cond := u_ws RX2 TX2 3
theorem nmX2 : ∀ a, a < 3 → ∀ b, b < 3 → a ≠ b → (TX2 a).2.1 ≠ (TX2 b).2.1 := by decide +kernel
theorem tyX2_ok : ∀ k, k < 3 → parseFieldDescriptor (TX2 k).2.2.1 = some (tyX2 k) := by decide +kernel
abbrev cX2_init : ByteArray := prog_4_method_1_code
def yX2_init : MethodName := ⟨RX2, "<init>", "()V"⟩
def RX3 : String := "SungSlides$Song"
def TX3 : u_T := fun k => match k with
  | 0 => ("SungSlides$Song", "beginnings", "[I", true)
  | 1 => ("SungSlides$Song", "lengths", "[I", true)
  | 2 => ("SungSlides$Song", "pitches", "[I", true)
  | 3 => ("SungSlides$Song", "endPitches", "[I", true)
  | 4 => ("SungSlides$Song", "phrases", "[I", true)
  | _ => ("SungSlides$Song", "count", "I", false)
def tyX3 : Nat → FieldType := fun k => match k with
  | 0 => .array .int
  | 1 => .array .int
  | 2 => .array .int
  | 3 => .array .int
  | 4 => .array .int
  | _ => .int
abbrev wsX30 : List Cond := u_ws RX3 TX3 6
theorem nmX3 : ∀ a, a < 6 → ∀ b, b < 6 → a ≠ b → (TX3 a).2.1 ≠ (TX3 b).2.1 := by decide +kernel
theorem tyX3_ok : ∀ k, k < 6 → parseFieldDescriptor (TX3 k).2.2.1 = some (tyX3 k) := by decide +kernel
abbrev cX3_init : ByteArray := prog_5_method_1_code
def yX3_init : MethodName := ⟨RX3, "<init>", "()V"⟩
abbrev cX3_size : ByteArray := prog_5_method_2_code
def yX3_size : MethodName := ⟨RX3, "size", "()I"⟩
abbrev cX3_has : ByteArray := prog_5_method_3_code
def yX3_has : MethodName := ⟨RX3, "has", "(I)Z"⟩
abbrev cX3_beginningOf : ByteArray := prog_5_method_4_code
def yX3_beginningOf : MethodName := ⟨RX3, "beginningOf", "(I)I"⟩
abbrev cX3_lengthOf : ByteArray := prog_5_method_5_code
def yX3_lengthOf : MethodName := ⟨RX3, "lengthOf", "(I)I"⟩
abbrev cX3_pitchOf : ByteArray := prog_5_method_6_code
def yX3_pitchOf : MethodName := ⟨RX3, "pitchOf", "(I)I"⟩
abbrev cX3_endPitchOf : ByteArray := prog_5_method_7_code
def yX3_endPitchOf : MethodName := ⟨RX3, "endPitchOf", "(I)I"⟩
abbrev cX3_phraseOf : ByteArray := prog_5_method_8_code
def yX3_phraseOf : MethodName := ⟨RX3, "phraseOf", "(I)I"⟩
abbrev cX3_ticks : ByteArray := prog_5_method_9_code
def yX3_ticks : MethodName := ⟨RX3, "ticks", "()I"⟩
abbrev cX3_phraseCount : ByteArray := prog_5_method_10_code
def yX3_phraseCount : MethodName := ⟨RX3, "phraseCount", "()I"⟩
abbrev cX3_firstOfPhrase : ByteArray := prog_5_method_11_code
def yX3_firstOfPhrase : MethodName := ⟨RX3, "firstOfPhrase", "(I)I"⟩
abbrev cX3_sizeOfPhrase : ByteArray := prog_5_method_12_code
def yX3_sizeOfPhrase : MethodName := ⟨RX3, "sizeOfPhrase", "(I)I"⟩
abbrev cX3_beginsPhrase : ByteArray := prog_5_method_13_code
def yX3_beginsPhrase : MethodName := ⟨RX3, "beginsPhrase", "(I)Z"⟩
abbrev cX3_wantedOf : ByteArray := prog_5_method_14_code
def yX3_wantedOf : MethodName := ⟨RX3, "wantedOf", "(II)I"⟩
abbrev cX3_barLinesOf : ByteArray := prog_5_method_15_code
def yX3_barLinesOf : MethodName := ⟨RX3, "barLinesOf", "(II)I"⟩
abbrev cX3_hasRoomFor : ByteArray := prog_5_method_16_code
def yX3_hasRoomFor : MethodName := ⟨RX3, "hasRoomFor", "(II)Z"⟩
abbrev cX3_append : ByteArray := prog_5_method_17_code
def yX3_append : MethodName := ⟨RX3, "append", "(IIIIZ)I"⟩
abbrev cX3_removeLast : ByteArray := prog_5_method_18_code
def yX3_removeLast : MethodName := ⟨RX3, "removeLast", "()I"⟩
abbrev cX3_copyFrom : ByteArray := prog_5_method_20_code
def yX3_copyFrom : MethodName := ⟨RX3, "copyFrom", "(LSungSlides$Song;)V"⟩
def RX4 : String := "SungSlides$State"
def TX4 : u_T := fun k => match k with
  | 0 => ("SungSlides$State", "song", "LSungSlides$Song;", true)
  | 1 => ("SungSlides$State", "settings", "[I", true)
  | _ => ("SungSlides$State", "pitches", "[I", true)
def tyX4 : Nat → FieldType := fun k => match k with
  | 0 => .object "SungSlides$Song"
  | 1 => .array .int
  | _ => .array .int
abbrev wsX40 : List Cond := u_ws RX4 TX4 3
theorem nmX4 : ∀ a, a < 3 → ∀ b, b < 3 → a ≠ b → (TX4 a).2.1 ≠ (TX4 b).2.1 := by decide +kernel
theorem tyX4_ok : ∀ k, k < 3 → parseFieldDescriptor (TX4 k).2.2.1 = some (tyX4 k) := by decide +kernel
abbrev cX4_init : ByteArray := prog_6_method_1_code
def yX4_init : MethodName := ⟨RX4, "<init>", "()V"⟩
abbrev cX4_copyFrom : ByteArray := prog_6_method_2_code
def yX4_copyFrom : MethodName := ⟨RX4, "copyFrom", "(LSungSlides$State;)V"⟩
abbrev cX4_setting : ByteArray := prog_6_method_3_code
def yX4_setting : MethodName := ⟨RX4, "setting", "(I)I"⟩
abbrev cX4_change : ByteArray := prog_6_method_4_code
def yX4_change : MethodName := ⟨RX4, "change", "(II)V"⟩
abbrev cX4_sungAt : ByteArray := prog_6_method_5_code
def yX4_sungAt : MethodName := ⟨RX4, "sungAt", "(I)I"⟩
abbrev cX4_voiceAt : ByteArray := prog_6_method_6_code
def yX4_voiceAt : MethodName := ⟨RX4, "voiceAt", "(II)V"⟩
abbrev cX4_voice : ByteArray := prog_6_method_7_code
def yX4_voice : MethodName := ⟨RX4, "voice", "(III)V"⟩
abbrev cX4_voiceAsWanted : ByteArray := prog_6_method_8_code
def yX4_voiceAsWanted : MethodName := ⟨RX4, "voiceAsWanted", "(II)V"⟩
abbrev cX4_voiceShifted : ByteArray := prog_6_method_9_code
def yX4_voiceShifted : MethodName := ⟨RX4, "voiceShifted", "(LSungSlides$State;II)V"⟩
abbrev cX4_soundingTicks : ByteArray := prog_6_method_10_code
def yX4_soundingTicks : MethodName := ⟨RX4, "soundingTicks", "()I"⟩
abbrev cX4_isOnset : ByteArray := prog_6_method_11_code
def yX4_isOnset : MethodName := ⟨RX4, "isOnset", "(I)Z"⟩
abbrev cX4_onsets : ByteArray := prog_6_method_12_code
def yX4_onsets : MethodName := ⟨RX4, "onsets", "()I"⟩
abbrev cX4_onsetNear : ByteArray := prog_6_method_13_code
def yX4_onsetNear : MethodName := ⟨RX4, "onsetNear", "(I)I"⟩
abbrev cX4_isMatch : ByteArray := prog_6_method_14_code
def yX4_isMatch : MethodName := ⟨RX4, "isMatch", "(II)Z"⟩
def RX5 : String := "SungSlides$Text"
def TX5 : u_T := fun k => match k with
  | 0 => ("SungSlides$Text", "characters", "[C", true)
  | _ => ("SungSlides$Text", "count", "I", false)
def tyX5 : Nat → FieldType := fun k => match k with
  | 0 => .array .char
  | _ => .int
abbrev wsX50 : List Cond := u_ws RX5 TX5 2
theorem nmX5 : ∀ a, a < 2 → ∀ b, b < 2 → a ≠ b → (TX5 a).2.1 ≠ (TX5 b).2.1 := by decide +kernel
theorem tyX5_ok : ∀ k, k < 2 → parseFieldDescriptor (TX5 k).2.2.1 = some (tyX5 k) := by decide +kernel
abbrev cX5_init : ByteArray := prog_7_method_1_code
def yX5_init : MethodName := ⟨RX5, "<init>", "()V"⟩
abbrev cX5_size : ByteArray := prog_7_method_2_code
def yX5_size : MethodName := ⟨RX5, "size", "()I"⟩
def RX6 : String := "SungSlides"
def TX6 : u_T := fun k => match k with
  | 0 => ("SungSlides", "now", "LSungSlides$State;", true)
  | 1 => ("SungSlides", "would", "LSungSlides$State;", true)
  | 2 => ("SungSlides", "snapshot", "LSungSlides$State;", true)
  | 3 => ("SungSlides", "hasSnapshot", "Z", false)
  | 4 => ("SungSlides", "history", "LSungSlides$History;", true)
  | 5 => ("SungSlides", "text", "LSungSlides$Text;", true)
  | 6 => ("SungSlides", "reader", "LSungSlides$Reader;", true)
  | _ => ("SungSlides", "judge", "LSungSlides$Judge;", true)
def tyX6 : Nat → FieldType := fun k => match k with
  | 0 => .object "SungSlides$State"
  | 1 => .object "SungSlides$State"
  | 2 => .object "SungSlides$State"
  | 3 => .boolean
  | 4 => .object "SungSlides$History"
  | 5 => .object "SungSlides$Text"
  | 6 => .object "SungSlides$Reader"
  | _ => .object "SungSlides$Judge"
abbrev wsX60 : List Cond := u_ws RX6 TX6 8
theorem nmX6 : ∀ a, a < 8 → ∀ b, b < 8 → a ≠ b → (TX6 a).2.1 ≠ (TX6 b).2.1 := by decide +kernel
theorem tyX6_ok : ∀ k, k < 8 → parseFieldDescriptor (TX6 k).2.2.1 = some (tyX6 k) := by decide +kernel
abbrev cX6_init : ByteArray := prog_1_method_1_code
def yX6_init : MethodName := ⟨RX6, "<init>", "()V"⟩
abbrev cX6_add : ByteArray := prog_1_method_2_code
def yX6_add : MethodName := ⟨RX6, "add", "(IIIIZ)I"⟩
abbrev cX6_drop : ByteArray := prog_1_method_3_code
def yX6_drop : MethodName := ⟨RX6, "drop", "()I"⟩
abbrev cX6_set : ByteArray := prog_1_method_5_code
def yX6_set : MethodName := ⟨RX6, "set", "(II)I"⟩
abbrev cX6_sing : ByteArray := prog_1_method_6_code
def yX6_sing : MethodName := ⟨RX6, "sing", "(III)I"⟩
abbrev cX6_silence : ByteArray := prog_1_method_7_code
def yX6_silence : MethodName := ⟨RX6, "silence", "(II)I"⟩
abbrev cX6_singAlong : ByteArray := prog_1_method_8_code
def yX6_singAlong : MethodName := ⟨RX6, "singAlong", "(III)I"⟩
abbrev cX6_undo : ByteArray := prog_1_method_11_code
def yX6_undo : MethodName := ⟨RX6, "undo", "()I"⟩
abbrev cX6_syllable : ByteArray := prog_1_method_14_code
def yX6_syllable : MethodName := ⟨RX6, "syllable", "(II)I"⟩
abbrev cX6_wanted : ByteArray := prog_1_method_15_code
def yX6_wanted : MethodName := ⟨RX6, "wanted", "(I)I"⟩
abbrev cX6_sung : ByteArray := prog_1_method_16_code
def yX6_sung : MethodName := ⟨RX6, "sung", "(I)I"⟩
abbrev cX6_lit : ByteArray := prog_1_method_17_code
def yX6_lit : MethodName := ⟨RX6, "lit", "(II)I"⟩
abbrev cX6_phrase : ByteArray := prog_1_method_18_code
def yX6_phrase : MethodName := ⟨RX6, "phrase", "(II)I"⟩
abbrev cX6_total : ByteArray := prog_1_method_19_code
def yX6_total : MethodName := ⟨RX6, "total", "(I)I"⟩
abbrev cX6_ifShifted : ByteArray := prog_1_method_20_code
def yX6_ifShifted : MethodName := ⟨RX6, "ifShifted", "(II)I"⟩
abbrev cX6_bestShift : ByteArray := prog_1_method_21_code
def yX6_bestShift : MethodName := ⟨RX6, "bestShift", "()I"⟩
abbrev cX6_ifSet : ByteArray := prog_1_method_22_code
def yX6_ifSet : MethodName := ⟨RX6, "ifSet", "(II)I"⟩
abbrev cX6_worst : ByteArray := prog_1_method_23_code
def yX6_worst : MethodName := ⟨RX6, "worst", "()I"⟩
abbrev cX6_isWithin : ByteArray := prog_1_method_24_code
def yX6_isWithin : MethodName := ⟨RX6, "isWithin", "(III)Z"⟩
abbrev cX6_isSetting : ByteArray := prog_1_method_25_code
def yX6_isSetting : MethodName := ⟨RX6, "isSetting", "(I)Z"⟩
abbrev cX6_isValueOf : ByteArray := prog_1_method_26_code
def yX6_isValueOf : MethodName := ⟨RX6, "isValueOf", "(II)Z"⟩
abbrev cX6_areTicks : ByteArray := prog_1_method_27_code
def yX6_areTicks : MethodName := ⟨RX6, "areTicks", "(III)Z"⟩
abbrev cX6_hitsNow : ByteArray := prog_1_method_28_code
def yX6_hitsNow : MethodName := ⟨RX6, "hitsNow", "()I"⟩
abbrev cX6_pointsOf : ByteArray := prog_1_method_29_code
def yX6_pointsOf : MethodName := ⟨RX6, "pointsOf", "(LSungSlides$State;)I"⟩
abbrev cX6_mostPoints : ByteArray := prog_1_method_30_code
def yX6_mostPoints : MethodName := ⟨RX6, "mostPoints", "()I"⟩
abbrev cX6_pointsIfShifted : ByteArray := prog_1_method_31_code
def yX6_pointsIfShifted : MethodName := ⟨RX6, "pointsIfShifted", "(II)I"⟩
def RX7 : String := "SungSlidesModel"
def TX7 : u_T := fun k => match k with
  | _ => ("", "", "", false)
def tyX7 : Nat → FieldType := fun k => match k with
  | _ => .int
abbrev wsX70 : List Cond := u_ws RX7 TX7 0
theorem nmX7 : ∀ a, a < 0 → ∀ b, b < 0 → a ≠ b → (TX7 a).2.1 ≠ (TX7 b).2.1 := by decide +kernel
theorem tyX7_ok : ∀ k, k < 0 → parseFieldDescriptor (TX7 k).2.2.1 = some (tyX7 k) := by decide +kernel
def RL : String := "SungSlidesLaw"
abbrev cL_cell : ByteArray := method_2_code
def yL_cell : MethodName := ⟨RL, "cell", "([II)I"⟩
abbrev cL_low : ByteArray := method_3_code
def yL_low : MethodName := ⟨RL, "low", "(II)I"⟩
abbrev cL_isSyllable : ByteArray := method_4_code
def yL_isSyllable : MethodName := ⟨RL, "isSyllable", "(LSungSlides;I)Z"⟩
abbrev cL_holds : ByteArray := method_5_code
def yL_holds : MethodName := ⟨RL, "holds", "(LSungSlides;)Z"⟩
abbrev cL_shifts : ByteArray := method_6_code
def yL_shifts : MethodName := ⟨RL, "shifts", "(LSungSlides;I)Z"⟩
abbrev cL_alone : ByteArray := method_7_code
def yL_alone : MethodName := ⟨RL, "alone", "(LSungSlides;I)Z"⟩
abbrev cL_octaves : ByteArray := method_8_code
def yL_octaves : MethodName := ⟨RL, "octaves", "(LSungSlides;)Z"⟩
abbrev cL_act : ByteArray := method_9_code
def yL_act : MethodName := ⟨RL, "act", "(LSungSlides;II)Z"⟩
abbrev cL_law : ByteArray := code
def yL_law : MethodName := ⟨RL, "law", "([I)Z"⟩
abbrev vwCl : List vw_C := [(RX0, TX0, 2), (RX1, TX1, 12), (RX2, TX2, 3), (RX3, TX3, 6), (RX4, TX4, 3), (RX5, TX5, 2), (RX6, TX6, 8)]
end
section
theorem dX0_init_0 : decode cX0_init 0 = .ok (.aload_n 0, 1) := by decide +kernel
theorem dX0_init_1 : decode cX0_init 1 = .ok (.invokespecial 3, 3) := by decide +kernel
theorem dX0_init_4 : decode cX0_init 4 = .ok (.aload_n 0, 1) := by decide +kernel
theorem dX0_init_5 : decode cX0_init 5 = .ok (.iconst 4, 1) := by decide +kernel
theorem dX0_init_6 : decode cX0_init 6 = .ok (.anewarray 9, 3) := by decide +kernel
theorem dX0_init_9 : decode cX0_init 9 = .ok (.putfield 11, 3) := by decide +kernel
theorem dX0_init_12 : decode cX0_init 12 = .ok (.aload_n 0, 1) := by decide +kernel
theorem dX0_init_13 : decode cX0_init 13 = .ok (.iconst 0, 1) := by decide +kernel
theorem dX0_init_14 : decode cX0_init 14 = .ok (.putfield 17, 3) := by decide +kernel
theorem dX0_init_17 : decode cX0_init 17 = .ok (.iconst 0, 1) := by decide +kernel
theorem dX0_init_18 : decode cX0_init 18 = .ok (.istore_n 1, 1) := by decide +kernel
theorem dX0_init_19 : decode cX0_init 19 = .ok (.iload_n 1, 1) := by decide +kernel
theorem dX0_init_20 : decode cX0_init 20 = .ok (.iconst 4, 1) := by decide +kernel
theorem dX0_init_21 : decode cX0_init 21 = .ok (.if_icmp .ge 22, 3) := by decide +kernel
theorem dX0_init_24 : decode cX0_init 24 = .ok (.aload_n 0, 1) := by decide +kernel
theorem dX0_init_25 : decode cX0_init 25 = .ok (.getfield 11, 3) := by decide +kernel
theorem dX0_init_28 : decode cX0_init 28 = .ok (.iload_n 1, 1) := by decide +kernel
theorem dX0_init_29 : decode cX0_init 29 = .ok (.new 9, 3) := by decide +kernel
theorem dX0_init_32 : decode cX0_init 32 = .ok (.dup, 1) := by decide +kernel
theorem dX0_init_33 : decode cX0_init 33 = .ok (.invokespecial 21, 3) := by decide +kernel
theorem dX0_init_36 : decode cX0_init 36 = .ok (.aastore, 1) := by decide +kernel
theorem dX0_init_37 : decode cX0_init 37 = .ok (.iinc 1 1, 3) := by decide +kernel
theorem dX0_init_40 : decode cX0_init 40 = .ok (.goto (-21), 3) := by decide +kernel
theorem dX0_init_43 : decode cX0_init 43 = .ok (.return_, 1) := by decide +kernel
theorem dX0_size_0 : decode cX0_size 0 = .ok (.aload_n 0, 1) := by decide +kernel
theorem dX0_size_1 : decode cX0_size 1 = .ok (.getfield 17, 3) := by decide +kernel
theorem dX0_size_4 : decode cX0_size 4 = .ok (.ireturn, 1) := by decide +kernel
theorem dX0_record_0 : decode cX0_record 0 = .ok (.aload_n 0, 1) := by decide +kernel
theorem dX0_record_1 : decode cX0_record 1 = .ok (.getfield 17, 3) := by decide +kernel
theorem dX0_record_4 : decode cX0_record 4 = .ok (.iconst 4, 1) := by decide +kernel
theorem dX0_record_5 : decode cX0_record 5 = .ok (.if_icmp .lt 7, 3) := by decide +kernel
theorem dX0_record_8 : decode cX0_record 8 = .ok (.aload_n 0, 1) := by decide +kernel
theorem dX0_record_9 : decode cX0_record 9 = .ok (.invokevirtual 22, 3) := by decide +kernel
theorem dX0_record_12 : decode cX0_record 12 = .ok (.aload_n 0, 1) := by decide +kernel
theorem dX0_record_13 : decode cX0_record 13 = .ok (.getfield 17, 3) := by decide +kernel
theorem dX0_record_16 : decode cX0_record 16 = .ok (.iconst 0, 1) := by decide +kernel
theorem dX0_record_17 : decode cX0_record 17 = .ok (.iconst 3, 1) := by decide +kernel
theorem dX0_record_18 : decode cX0_record 18 = .ok (.invokestatic 25, 3) := by decide +kernel
theorem dX0_record_21 : decode cX0_record 21 = .ok (.ifCond .eq 38, 3) := by decide +kernel
theorem dX0_record_24 : decode cX0_record 24 = .ok (.aload_n 0, 1) := by decide +kernel
theorem dX0_record_25 : decode cX0_record 25 = .ok (.getfield 11, 3) := by decide +kernel
theorem dX0_record_28 : decode cX0_record 28 = .ok (.aload_n 0, 1) := by decide +kernel
theorem dX0_record_29 : decode cX0_record 29 = .ok (.getfield 17, 3) := by decide +kernel
theorem dX0_record_32 : decode cX0_record 32 = .ok (.aaload, 1) := by decide +kernel
theorem dX0_record_33 : decode cX0_record 33 = .ok (.ifnull 26, 3) := by decide +kernel
theorem dX0_record_36 : decode cX0_record 36 = .ok (.aload_n 0, 1) := by decide +kernel
theorem dX0_record_37 : decode cX0_record 37 = .ok (.getfield 11, 3) := by decide +kernel
theorem dX0_record_40 : decode cX0_record 40 = .ok (.aload_n 0, 1) := by decide +kernel
theorem dX0_record_41 : decode cX0_record 41 = .ok (.getfield 17, 3) := by decide +kernel
theorem dX0_record_44 : decode cX0_record 44 = .ok (.aaload, 1) := by decide +kernel
theorem dX0_record_45 : decode cX0_record 45 = .ok (.aload_n 1, 1) := by decide +kernel
theorem dX0_record_46 : decode cX0_record 46 = .ok (.invokevirtual 29, 3) := by decide +kernel
theorem dX0_record_49 : decode cX0_record 49 = .ok (.aload_n 0, 1) := by decide +kernel
theorem dX0_record_50 : decode cX0_record 50 = .ok (.dup, 1) := by decide +kernel
theorem dX0_record_51 : decode cX0_record 51 = .ok (.getfield 17, 3) := by decide +kernel
theorem dX0_record_54 : decode cX0_record 54 = .ok (.iconst 1, 1) := by decide +kernel
theorem dX0_record_55 : decode cX0_record 55 = .ok (.iadd, 1) := by decide +kernel
theorem dX0_record_56 : decode cX0_record 56 = .ok (.putfield 17, 3) := by decide +kernel
theorem dX0_record_59 : decode cX0_record 59 = .ok (.return_, 1) := by decide +kernel
theorem dX0_dropOldest_0 : decode cX0_dropOldest 0 = .ok (.aload_n 0, 1) := by decide +kernel
theorem dX0_dropOldest_1 : decode cX0_dropOldest 1 = .ok (.getfield 11, 3) := by decide +kernel
theorem dX0_dropOldest_4 : decode cX0_dropOldest 4 = .ok (.iconst 0, 1) := by decide +kernel
theorem dX0_dropOldest_5 : decode cX0_dropOldest 5 = .ok (.aaload, 1) := by decide +kernel
theorem dX0_dropOldest_6 : decode cX0_dropOldest 6 = .ok (.astore_n 1, 1) := by decide +kernel
theorem dX0_dropOldest_7 : decode cX0_dropOldest 7 = .ok (.iconst 1, 1) := by decide +kernel
theorem dX0_dropOldest_8 : decode cX0_dropOldest 8 = .ok (.istore_n 2, 1) := by decide +kernel
theorem dX0_dropOldest_9 : decode cX0_dropOldest 9 = .ok (.iload_n 2, 1) := by decide +kernel
theorem dX0_dropOldest_10 : decode cX0_dropOldest 10 = .ok (.iconst 4, 1) := by decide +kernel
theorem dX0_dropOldest_11 : decode cX0_dropOldest 11 = .ok (.if_icmp .ge 23, 3) := by decide +kernel
theorem dX0_dropOldest_14 : decode cX0_dropOldest 14 = .ok (.aload_n 0, 1) := by decide +kernel
theorem dX0_dropOldest_15 : decode cX0_dropOldest 15 = .ok (.getfield 11, 3) := by decide +kernel
theorem dX0_dropOldest_18 : decode cX0_dropOldest 18 = .ok (.iload_n 2, 1) := by decide +kernel
theorem dX0_dropOldest_19 : decode cX0_dropOldest 19 = .ok (.iconst 1, 1) := by decide +kernel
theorem dX0_dropOldest_20 : decode cX0_dropOldest 20 = .ok (.isub, 1) := by decide +kernel
theorem dX0_dropOldest_21 : decode cX0_dropOldest 21 = .ok (.aload_n 0, 1) := by decide +kernel
theorem dX0_dropOldest_22 : decode cX0_dropOldest 22 = .ok (.getfield 11, 3) := by decide +kernel
theorem dX0_dropOldest_25 : decode cX0_dropOldest 25 = .ok (.iload_n 2, 1) := by decide +kernel
theorem dX0_dropOldest_26 : decode cX0_dropOldest 26 = .ok (.aaload, 1) := by decide +kernel
theorem dX0_dropOldest_27 : decode cX0_dropOldest 27 = .ok (.aastore, 1) := by decide +kernel
theorem dX0_dropOldest_28 : decode cX0_dropOldest 28 = .ok (.iinc 2 1, 3) := by decide +kernel
theorem dX0_dropOldest_31 : decode cX0_dropOldest 31 = .ok (.goto (-22), 3) := by decide +kernel
theorem dX0_dropOldest_34 : decode cX0_dropOldest 34 = .ok (.aload_n 0, 1) := by decide +kernel
theorem dX0_dropOldest_35 : decode cX0_dropOldest 35 = .ok (.getfield 11, 3) := by decide +kernel
theorem dX0_dropOldest_38 : decode cX0_dropOldest 38 = .ok (.iconst 3, 1) := by decide +kernel
theorem dX0_dropOldest_39 : decode cX0_dropOldest 39 = .ok (.aload_n 1, 1) := by decide +kernel
theorem dX0_dropOldest_40 : decode cX0_dropOldest 40 = .ok (.aastore, 1) := by decide +kernel
theorem dX0_dropOldest_41 : decode cX0_dropOldest 41 = .ok (.aload_n 0, 1) := by decide +kernel
theorem dX0_dropOldest_42 : decode cX0_dropOldest 42 = .ok (.iconst 3, 1) := by decide +kernel
theorem dX0_dropOldest_43 : decode cX0_dropOldest 43 = .ok (.putfield 17, 3) := by decide +kernel
theorem dX0_dropOldest_46 : decode cX0_dropOldest 46 = .ok (.return_, 1) := by decide +kernel
theorem dX0_takeBackInto_0 : decode cX0_takeBackInto 0 = .ok (.aload_n 0, 1) := by decide +kernel
theorem dX0_takeBackInto_1 : decode cX0_takeBackInto 1 = .ok (.getfield 17, 3) := by decide +kernel
theorem dX0_takeBackInto_4 : decode cX0_takeBackInto 4 = .ok (.iconst 1, 1) := by decide +kernel
theorem dX0_takeBackInto_5 : decode cX0_takeBackInto 5 = .ok (.iconst 4, 1) := by decide +kernel
theorem dX0_takeBackInto_6 : decode cX0_takeBackInto 6 = .ok (.invokestatic 25, 3) := by decide +kernel
theorem dX0_takeBackInto_9 : decode cX0_takeBackInto 9 = .ok (.ifCond .eq 40, 3) := by decide +kernel
theorem dX0_takeBackInto_12 : decode cX0_takeBackInto 12 = .ok (.aload_n 0, 1) := by decide +kernel
theorem dX0_takeBackInto_13 : decode cX0_takeBackInto 13 = .ok (.getfield 11, 3) := by decide +kernel
theorem dX0_takeBackInto_16 : decode cX0_takeBackInto 16 = .ok (.aload_n 0, 1) := by decide +kernel
theorem dX0_takeBackInto_17 : decode cX0_takeBackInto 17 = .ok (.getfield 17, 3) := by decide +kernel
theorem dX0_takeBackInto_20 : decode cX0_takeBackInto 20 = .ok (.iconst 1, 1) := by decide +kernel
theorem dX0_takeBackInto_21 : decode cX0_takeBackInto 21 = .ok (.isub, 1) := by decide +kernel
theorem dX0_takeBackInto_22 : decode cX0_takeBackInto 22 = .ok (.aaload, 1) := by decide +kernel
theorem dX0_takeBackInto_23 : decode cX0_takeBackInto 23 = .ok (.ifnull 26, 3) := by decide +kernel
theorem dX0_takeBackInto_26 : decode cX0_takeBackInto 26 = .ok (.aload_n 0, 1) := by decide +kernel
theorem dX0_takeBackInto_27 : decode cX0_takeBackInto 27 = .ok (.dup, 1) := by decide +kernel
theorem dX0_takeBackInto_28 : decode cX0_takeBackInto 28 = .ok (.getfield 17, 3) := by decide +kernel
theorem dX0_takeBackInto_31 : decode cX0_takeBackInto 31 = .ok (.iconst 1, 1) := by decide +kernel
theorem dX0_takeBackInto_32 : decode cX0_takeBackInto 32 = .ok (.isub, 1) := by decide +kernel
theorem dX0_takeBackInto_33 : decode cX0_takeBackInto 33 = .ok (.putfield 17, 3) := by decide +kernel
theorem dX0_takeBackInto_36 : decode cX0_takeBackInto 36 = .ok (.aload_n 1, 1) := by decide +kernel
theorem dX0_takeBackInto_37 : decode cX0_takeBackInto 37 = .ok (.aload_n 0, 1) := by decide +kernel
theorem dX0_takeBackInto_38 : decode cX0_takeBackInto 38 = .ok (.getfield 11, 3) := by decide +kernel
theorem dX0_takeBackInto_41 : decode cX0_takeBackInto 41 = .ok (.aload_n 0, 1) := by decide +kernel
theorem dX0_takeBackInto_42 : decode cX0_takeBackInto 42 = .ok (.getfield 17, 3) := by decide +kernel
theorem dX0_takeBackInto_45 : decode cX0_takeBackInto 45 = .ok (.aaload, 1) := by decide +kernel
theorem dX0_takeBackInto_46 : decode cX0_takeBackInto 46 = .ok (.invokevirtual 29, 3) := by decide +kernel
theorem dX0_takeBackInto_49 : decode cX0_takeBackInto 49 = .ok (.aload_n 0, 1) := by decide +kernel
theorem dX0_takeBackInto_50 : decode cX0_takeBackInto 50 = .ok (.getfield 17, 3) := by decide +kernel
theorem dX0_takeBackInto_53 : decode cX0_takeBackInto 53 = .ok (.ireturn, 1) := by decide +kernel
theorem dX1_init_0 : decode cX1_init 0 = .ok (.aload_n 0, 1) := by decide +kernel
theorem dX1_init_1 : decode cX1_init 1 = .ok (.invokespecial 3, 3) := by decide +kernel
theorem dX1_init_4 : decode cX1_init 4 = .ok (.aload_n 0, 1) := by decide +kernel
theorem dX1_init_5 : decode cX1_init 5 = .ok (.bipush 40, 2) := by decide +kernel
theorem dX1_init_7 : decode cX1_init 7 = .ok (.newarray .int, 2) := by decide +kernel
theorem dX1_init_9 : decode cX1_init 9 = .ok (.putfield 9, 3) := by decide +kernel
theorem dX1_init_12 : decode cX1_init 12 = .ok (.aload_n 0, 1) := by decide +kernel
theorem dX1_init_13 : decode cX1_init 13 = .ok (.bipush 40, 2) := by decide +kernel
theorem dX1_init_15 : decode cX1_init 15 = .ok (.newarray .int, 2) := by decide +kernel
theorem dX1_init_17 : decode cX1_init 17 = .ok (.putfield 15, 3) := by decide +kernel
theorem dX1_init_20 : decode cX1_init 20 = .ok (.aload_n 0, 1) := by decide +kernel
theorem dX1_init_21 : decode cX1_init 21 = .ok (.bipush 40, 2) := by decide +kernel
theorem dX1_init_23 : decode cX1_init 23 = .ok (.newarray .int, 2) := by decide +kernel
theorem dX1_init_25 : decode cX1_init 25 = .ok (.putfield 18, 3) := by decide +kernel
theorem dX1_init_28 : decode cX1_init 28 = .ok (.aload_n 0, 1) := by decide +kernel
theorem dX1_init_29 : decode cX1_init 29 = .ok (.bipush 40, 2) := by decide +kernel
theorem dX1_init_31 : decode cX1_init 31 = .ok (.newarray .int, 2) := by decide +kernel
theorem dX1_init_33 : decode cX1_init 33 = .ok (.putfield 21, 3) := by decide +kernel
theorem dX1_init_36 : decode cX1_init 36 = .ok (.aload_n 0, 1) := by decide +kernel
theorem dX1_init_37 : decode cX1_init 37 = .ok (.bipush 40, 2) := by decide +kernel
theorem dX1_init_39 : decode cX1_init 39 = .ok (.newarray .int, 2) := by decide +kernel
theorem dX1_init_41 : decode cX1_init 41 = .ok (.putfield 24, 3) := by decide +kernel
theorem dX1_init_44 : decode cX1_init 44 = .ok (.aload_n 0, 1) := by decide +kernel
theorem dX1_init_45 : decode cX1_init 45 = .ok (.bipush 40, 2) := by decide +kernel
theorem dX1_init_47 : decode cX1_init 47 = .ok (.newarray .int, 2) := by decide +kernel
theorem dX1_init_49 : decode cX1_init 49 = .ok (.putfield 27, 3) := by decide +kernel
theorem dX1_init_52 : decode cX1_init 52 = .ok (.aload_n 0, 1) := by decide +kernel
theorem dX1_init_53 : decode cX1_init 53 = .ok (.bipush 40, 2) := by decide +kernel
theorem dX1_init_55 : decode cX1_init 55 = .ok (.newarray .int, 2) := by decide +kernel
theorem dX1_init_57 : decode cX1_init 57 = .ok (.putfield 30, 3) := by decide +kernel
theorem dX1_init_60 : decode cX1_init 60 = .ok (.aload_n 0, 1) := by decide +kernel
theorem dX1_init_61 : decode cX1_init 61 = .ok (.bipush 40, 2) := by decide +kernel
theorem dX1_init_63 : decode cX1_init 63 = .ok (.newarray .int, 2) := by decide +kernel
theorem dX1_init_65 : decode cX1_init 65 = .ok (.putfield 33, 3) := by decide +kernel
theorem dX1_init_68 : decode cX1_init 68 = .ok (.aload_n 0, 1) := by decide +kernel
theorem dX1_init_69 : decode cX1_init 69 = .ok (.bipush 40, 2) := by decide +kernel
theorem dX1_init_71 : decode cX1_init 71 = .ok (.newarray .int, 2) := by decide +kernel
theorem dX1_init_73 : decode cX1_init 73 = .ok (.putfield 36, 3) := by decide +kernel
theorem dX1_init_76 : decode cX1_init 76 = .ok (.aload_n 0, 1) := by decide +kernel
theorem dX1_init_77 : decode cX1_init 77 = .ok (.bipush 40, 2) := by decide +kernel
theorem dX1_init_79 : decode cX1_init 79 = .ok (.newarray .int, 2) := by decide +kernel
theorem dX1_init_81 : decode cX1_init 81 = .ok (.putfield 39, 3) := by decide +kernel
theorem dX1_init_84 : decode cX1_init 84 = .ok (.aload_n 0, 1) := by decide +kernel
theorem dX1_init_85 : decode cX1_init 85 = .ok (.iconst 0, 1) := by decide +kernel
theorem dX1_init_86 : decode cX1_init 86 = .ok (.putfield 42, 3) := by decide +kernel
theorem dX1_init_89 : decode cX1_init 89 = .ok (.aload_n 0, 1) := by decide +kernel
theorem dX1_init_90 : decode cX1_init 90 = .ok (.iconst 0, 1) := by decide +kernel
theorem dX1_init_91 : decode cX1_init 91 = .ok (.putfield 46, 3) := by decide +kernel
theorem dX1_init_94 : decode cX1_init 94 = .ok (.return_, 1) := by decide +kernel
theorem dX1_judge_0 : decode cX1_judge 0 = .ok (.iconst 0, 1) := by decide +kernel
theorem dX1_judge_1 : decode cX1_judge 1 = .ok (.istore_n 2, 1) := by decide +kernel
theorem dX1_judge_2 : decode cX1_judge 2 = .ok (.iload_n 2, 1) := by decide +kernel
theorem dX1_judge_3 : decode cX1_judge 3 = .ok (.aload_n 1, 1) := by decide +kernel
theorem dX1_judge_4 : decode cX1_judge 4 = .ok (.getfield 49, 3) := by decide +kernel
theorem dX1_judge_7 : decode cX1_judge 7 = .ok (.invokevirtual 55, 3) := by decide +kernel
theorem dX1_judge_10 : decode cX1_judge 10 = .ok (.if_icmp .ge 15, 3) := by decide +kernel
theorem dX1_judge_13 : decode cX1_judge 13 = .ok (.aload_n 0, 1) := by decide +kernel
theorem dX1_judge_14 : decode cX1_judge 14 = .ok (.aload_n 1, 1) := by decide +kernel
theorem dX1_judge_15 : decode cX1_judge 15 = .ok (.iload_n 2, 1) := by decide +kernel
theorem dX1_judge_16 : decode cX1_judge 16 = .ok (.invokevirtual 61, 3) := by decide +kernel
theorem dX1_judge_19 : decode cX1_judge 19 = .ok (.iinc 2 1, 3) := by decide +kernel
theorem dX1_judge_22 : decode cX1_judge 22 = .ok (.goto (-20), 3) := by decide +kernel
theorem dX1_judge_25 : decode cX1_judge 25 = .ok (.aload_n 0, 1) := by decide +kernel
theorem dX1_judge_26 : decode cX1_judge 26 = .ok (.aload_n 1, 1) := by decide +kernel
theorem dX1_judge_27 : decode cX1_judge 27 = .ok (.getfield 49, 3) := by decide +kernel
theorem dX1_judge_30 : decode cX1_judge 30 = .ok (.invokevirtual 65, 3) := by decide +kernel
theorem dX1_judge_33 : decode cX1_judge 33 = .ok (.return_, 1) := by decide +kernel
theorem dX1_judgePerfect_0 : decode cX1_judgePerfect 0 = .ok (.aload_n 1, 1) := by decide +kernel
theorem dX1_judgePerfect_1 : decode cX1_judgePerfect 1 = .ok (.getfield 49, 3) := by decide +kernel
theorem dX1_judgePerfect_4 : decode cX1_judgePerfect 4 = .ok (.astore_n 2, 1) := by decide +kernel
theorem dX1_judgePerfect_5 : decode cX1_judgePerfect 5 = .ok (.iconst 0, 1) := by decide +kernel
theorem dX1_judgePerfect_6 : decode cX1_judgePerfect 6 = .ok (.istore_n 3, 1) := by decide +kernel
theorem dX1_judgePerfect_7 : decode cX1_judgePerfect 7 = .ok (.iload_n 3, 1) := by decide +kernel
theorem dX1_judgePerfect_8 : decode cX1_judgePerfect 8 = .ok (.aload_n 2, 1) := by decide +kernel
theorem dX1_judgePerfect_9 : decode cX1_judgePerfect 9 = .ok (.invokevirtual 55, 3) := by decide +kernel
theorem dX1_judgePerfect_12 : decode cX1_judgePerfect 12 = .ok (.if_icmp .ge 68, 3) := by decide +kernel
theorem dX1_judgePerfect_15 : decode cX1_judgePerfect 15 = .ok (.iload_n 3, 1) := by decide +kernel
theorem dX1_judgePerfect_16 : decode cX1_judgePerfect 16 = .ok (.bipush 40, 2) := by decide +kernel
theorem dX1_judgePerfect_18 : decode cX1_judgePerfect 18 = .ok (.if_icmp .ge 62, 3) := by decide +kernel
theorem dX1_judgePerfect_21 : decode cX1_judgePerfect 21 = .ok (.aload_n 0, 1) := by decide +kernel
theorem dX1_judgePerfect_22 : decode cX1_judgePerfect 22 = .ok (.getfield 9, 3) := by decide +kernel
theorem dX1_judgePerfect_25 : decode cX1_judgePerfect 25 = .ok (.iload_n 3, 1) := by decide +kernel
theorem dX1_judgePerfect_26 : decode cX1_judgePerfect 26 = .ok (.aload_n 2, 1) := by decide +kernel
theorem dX1_judgePerfect_27 : decode cX1_judgePerfect 27 = .ok (.iload_n 3, 1) := by decide +kernel
theorem dX1_judgePerfect_28 : decode cX1_judgePerfect 28 = .ok (.invokevirtual 69, 3) := by decide +kernel
theorem dX1_judgePerfect_31 : decode cX1_judgePerfect 31 = .ok (.iastore, 1) := by decide +kernel
theorem dX1_judgePerfect_32 : decode cX1_judgePerfect 32 = .ok (.aload_n 0, 1) := by decide +kernel
theorem dX1_judgePerfect_33 : decode cX1_judgePerfect 33 = .ok (.getfield 15, 3) := by decide +kernel
theorem dX1_judgePerfect_36 : decode cX1_judgePerfect 36 = .ok (.iload_n 3, 1) := by decide +kernel
theorem dX1_judgePerfect_37 : decode cX1_judgePerfect 37 = .ok (.bipush 100, 2) := by decide +kernel
theorem dX1_judgePerfect_39 : decode cX1_judgePerfect 39 = .ok (.iastore, 1) := by decide +kernel
theorem dX1_judgePerfect_40 : decode cX1_judgePerfect 40 = .ok (.aload_n 0, 1) := by decide +kernel
theorem dX1_judgePerfect_41 : decode cX1_judgePerfect 41 = .ok (.getfield 18, 3) := by decide +kernel
theorem dX1_judgePerfect_44 : decode cX1_judgePerfect 44 = .ok (.iload_n 3, 1) := by decide +kernel
theorem dX1_judgePerfect_45 : decode cX1_judgePerfect 45 = .ok (.aload_n 2, 1) := by decide +kernel
theorem dX1_judgePerfect_46 : decode cX1_judgePerfect 46 = .ok (.iload_n 3, 1) := by decide +kernel
theorem dX1_judgePerfect_47 : decode cX1_judgePerfect 47 = .ok (.aload_n 1, 1) := by decide +kernel
theorem dX1_judgePerfect_48 : decode cX1_judgePerfect 48 = .ok (.iconst 0, 1) := by decide +kernel
theorem dX1_judgePerfect_49 : decode cX1_judgePerfect 49 = .ok (.invokevirtual 73, 3) := by decide +kernel
theorem dX1_judgePerfect_52 : decode cX1_judgePerfect 52 = .ok (.invokevirtual 76, 3) := by decide +kernel
theorem dX1_judgePerfect_55 : decode cX1_judgePerfect 55 = .ok (.iastore, 1) := by decide +kernel
theorem dX1_judgePerfect_56 : decode cX1_judgePerfect 56 = .ok (.aload_n 0, 1) := by decide +kernel
theorem dX1_judgePerfect_57 : decode cX1_judgePerfect 57 = .ok (.getfield 21, 3) := by decide +kernel
theorem dX1_judgePerfect_60 : decode cX1_judgePerfect 60 = .ok (.iload_n 3, 1) := by decide +kernel
theorem dX1_judgePerfect_61 : decode cX1_judgePerfect 61 = .ok (.aload_n 2, 1) := by decide +kernel
theorem dX1_judgePerfect_62 : decode cX1_judgePerfect 62 = .ok (.iload_n 3, 1) := by decide +kernel
theorem dX1_judgePerfect_63 : decode cX1_judgePerfect 63 = .ok (.invokevirtual 80, 3) := by decide +kernel
theorem dX1_judgePerfect_66 : decode cX1_judgePerfect 66 = .ok (.iastore, 1) := by decide +kernel
theorem dX1_judgePerfect_67 : decode cX1_judgePerfect 67 = .ok (.aload_n 0, 1) := by decide +kernel
theorem dX1_judgePerfect_68 : decode cX1_judgePerfect 68 = .ok (.getfield 24, 3) := by decide +kernel
theorem dX1_judgePerfect_71 : decode cX1_judgePerfect 71 = .ok (.iload_n 3, 1) := by decide +kernel
theorem dX1_judgePerfect_72 : decode cX1_judgePerfect 72 = .ok (.iconst 0, 1) := by decide +kernel
theorem dX1_judgePerfect_73 : decode cX1_judgePerfect 73 = .ok (.iastore, 1) := by decide +kernel
theorem dX1_judgePerfect_74 : decode cX1_judgePerfect 74 = .ok (.iinc 3 1, 3) := by decide +kernel
theorem dX1_judgePerfect_77 : decode cX1_judgePerfect 77 = .ok (.goto (-70), 3) := by decide +kernel
theorem dX1_judgePerfect_80 : decode cX1_judgePerfect 80 = .ok (.aload_n 0, 1) := by decide +kernel
theorem dX1_judgePerfect_81 : decode cX1_judgePerfect 81 = .ok (.aload_n 2, 1) := by decide +kernel
theorem dX1_judgePerfect_82 : decode cX1_judgePerfect 82 = .ok (.invokevirtual 65, 3) := by decide +kernel
theorem dX1_judgePerfect_85 : decode cX1_judgePerfect 85 = .ok (.return_, 1) := by decide +kernel
theorem dX1_hear_0 : decode cX1_hear 0 = .ok (.iload_n 2, 1) := by decide +kernel
theorem dX1_hear_1 : decode cX1_hear 1 = .ok (.iconst 0, 1) := by decide +kernel
theorem dX1_hear_2 : decode cX1_hear 2 = .ok (.bipush 39, 2) := by decide +kernel
theorem dX1_hear_4 : decode cX1_hear 4 = .ok (.invokestatic 83, 3) := by decide +kernel
theorem dX1_hear_7 : decode cX1_hear 7 = .ok (.ifCond .ne 4, 3) := by decide +kernel
theorem dX1_hear_10 : decode cX1_hear 10 = .ok (.return_, 1) := by decide +kernel
theorem dX1_hear_11 : decode cX1_hear 11 = .ok (.aload_n 1, 1) := by decide +kernel
theorem dX1_hear_12 : decode cX1_hear 12 = .ok (.getfield 49, 3) := by decide +kernel
theorem dX1_hear_15 : decode cX1_hear 15 = .ok (.astore_n 3, 1) := by decide +kernel
theorem dX1_hear_16 : decode cX1_hear 16 = .ok (.aload_n 3, 1) := by decide +kernel
theorem dX1_hear_17 : decode cX1_hear 17 = .ok (.iload_n 2, 1) := by decide +kernel
theorem dX1_hear_18 : decode cX1_hear 18 = .ok (.invokevirtual 69, 3) := by decide +kernel
theorem dX1_hear_21 : decode cX1_hear 21 = .ok (.istore 4, 2) := by decide +kernel
theorem dX1_hear_23 : decode cX1_hear 23 = .ok (.aload_n 3, 1) := by decide +kernel
theorem dX1_hear_24 : decode cX1_hear 24 = .ok (.iload_n 2, 1) := by decide +kernel
theorem dX1_hear_25 : decode cX1_hear 25 = .ok (.invokevirtual 80, 3) := by decide +kernel
theorem dX1_hear_28 : decode cX1_hear 28 = .ok (.istore 5, 2) := by decide +kernel
theorem dX1_hear_30 : decode cX1_hear 30 = .ok (.aload_n 1, 1) := by decide +kernel
theorem dX1_hear_31 : decode cX1_hear 31 = .ok (.iconst 0, 1) := by decide +kernel
theorem dX1_hear_32 : decode cX1_hear 32 = .ok (.invokevirtual 73, 3) := by decide +kernel
theorem dX1_hear_35 : decode cX1_hear 35 = .ok (.istore 6, 2) := by decide +kernel
theorem dX1_hear_37 : decode cX1_hear 37 = .ok (.iconst 0, 1) := by decide +kernel
theorem dX1_hear_38 : decode cX1_hear 38 = .ok (.istore 7, 2) := by decide +kernel
theorem dX1_hear_40 : decode cX1_hear 40 = .ok (.iconst 0, 1) := by decide +kernel
theorem dX1_hear_41 : decode cX1_hear 41 = .ok (.istore 8, 2) := by decide +kernel
theorem dX1_hear_43 : decode cX1_hear 43 = .ok (.iconst 0, 1) := by decide +kernel
theorem dX1_hear_44 : decode cX1_hear 44 = .ok (.istore 9, 2) := by decide +kernel
theorem dX1_hear_46 : decode cX1_hear 46 = .ok (.iconst 0, 1) := by decide +kernel
theorem dX1_hear_47 : decode cX1_hear 47 = .ok (.istore 10, 2) := by decide +kernel
theorem dX1_hear_49 : decode cX1_hear 49 = .ok (.iconst 0, 1) := by decide +kernel
theorem dX1_hear_50 : decode cX1_hear 50 = .ok (.istore 11, 2) := by decide +kernel
theorem dX1_hear_52 : decode cX1_hear 52 = .ok (.iload 11, 2) := by decide +kernel
theorem dX1_hear_54 : decode cX1_hear 54 = .ok (.iload 4, 2) := by decide +kernel
theorem dX1_hear_56 : decode cX1_hear 56 = .ok (.if_icmp .ge 103, 3) := by decide +kernel
theorem dX1_hear_59 : decode cX1_hear 59 = .ok (.aload_n 1, 1) := by decide +kernel
theorem dX1_hear_60 : decode cX1_hear 60 = .ok (.iload 5, 2) := by decide +kernel
theorem dX1_hear_62 : decode cX1_hear 62 = .ok (.iload 11, 2) := by decide +kernel
theorem dX1_hear_64 : decode cX1_hear 64 = .ok (.iadd, 1) := by decide +kernel
theorem dX1_hear_65 : decode cX1_hear 65 = .ok (.invokevirtual 87, 3) := by decide +kernel
theorem dX1_hear_68 : decode cX1_hear 68 = .ok (.istore 12, 2) := by decide +kernel
theorem dX1_hear_70 : decode cX1_hear 70 = .ok (.aload_n 1, 1) := by decide +kernel
theorem dX1_hear_71 : decode cX1_hear 71 = .ok (.iload 12, 2) := by decide +kernel
theorem dX1_hear_73 : decode cX1_hear 73 = .ok (.aload_n 3, 1) := by decide +kernel
theorem dX1_hear_74 : decode cX1_hear 74 = .ok (.iload_n 2, 1) := by decide +kernel
theorem dX1_hear_75 : decode cX1_hear 75 = .ok (.iload 11, 2) := by decide +kernel
theorem dX1_hear_77 : decode cX1_hear 77 = .ok (.invokevirtual 90, 3) := by decide +kernel
theorem dX1_hear_80 : decode cX1_hear 80 = .ok (.invokevirtual 93, 3) := by decide +kernel
theorem dX1_hear_83 : decode cX1_hear 83 = .ok (.istore 13, 2) := by decide +kernel
theorem dX1_hear_85 : decode cX1_hear 85 = .ok (.iload 7, 2) := by decide +kernel
theorem dX1_hear_87 : decode cX1_hear 87 = .ok (.iload 12, 2) := by decide +kernel
theorem dX1_hear_89 : decode cX1_hear 89 = .ok (.iconst (-1), 1) := by decide +kernel
theorem dX1_hear_90 : decode cX1_hear 90 = .ok (.if_icmp .ne 7, 3) := by decide +kernel
theorem dX1_hear_93 : decode cX1_hear 93 = .ok (.iconst 0, 1) := by decide +kernel
theorem dX1_hear_94 : decode cX1_hear 94 = .ok (.goto 4, 3) := by decide +kernel
theorem dX1_hear_97 : decode cX1_hear 97 = .ok (.iconst 1, 1) := by decide +kernel
theorem dX1_hear_98 : decode cX1_hear 98 = .ok (.iadd, 1) := by decide +kernel
theorem dX1_hear_99 : decode cX1_hear 99 = .ok (.istore 7, 2) := by decide +kernel
theorem dX1_hear_101 : decode cX1_hear 101 = .ok (.iload 8, 2) := by decide +kernel
theorem dX1_hear_103 : decode cX1_hear 103 = .ok (.iload 13, 2) := by decide +kernel
theorem dX1_hear_105 : decode cX1_hear 105 = .ok (.ifCond .eq 7, 3) := by decide +kernel
theorem dX1_hear_108 : decode cX1_hear 108 = .ok (.iconst 1, 1) := by decide +kernel
theorem dX1_hear_109 : decode cX1_hear 109 = .ok (.goto 4, 3) := by decide +kernel
theorem dX1_hear_112 : decode cX1_hear 112 = .ok (.iconst 0, 1) := by decide +kernel
theorem dX1_hear_113 : decode cX1_hear 113 = .ok (.iadd, 1) := by decide +kernel
theorem dX1_hear_114 : decode cX1_hear 114 = .ok (.istore 8, 2) := by decide +kernel
theorem dX1_hear_116 : decode cX1_hear 116 = .ok (.iload 9, 2) := by decide +kernel
theorem dX1_hear_118 : decode cX1_hear 118 = .ok (.iload 13, 2) := by decide +kernel
theorem dX1_hear_120 : decode cX1_hear 120 = .ok (.ifCond .eq 25, 3) := by decide +kernel
theorem dX1_hear_123 : decode cX1_hear 123 = .ok (.iload 10, 2) := by decide +kernel
theorem dX1_hear_125 : decode cX1_hear 125 = .ok (.ifCond .eq 20, 3) := by decide +kernel
theorem dX1_hear_128 : decode cX1_hear 128 = .ok (.iload 5, 2) := by decide +kernel
theorem dX1_hear_130 : decode cX1_hear 130 = .ok (.iload 11, 2) := by decide +kernel
theorem dX1_hear_132 : decode cX1_hear 132 = .ok (.iadd, 1) := by decide +kernel
theorem dX1_hear_133 : decode cX1_hear 133 = .ok (.iload 6, 2) := by decide +kernel
theorem dX1_hear_135 : decode cX1_hear 135 = .ok (.invokestatic 97, 3) := by decide +kernel
theorem dX1_hear_138 : decode cX1_hear 138 = .ok (.ifCond .eq 7, 3) := by decide +kernel
theorem dX1_hear_141 : decode cX1_hear 141 = .ok (.iconst 1, 1) := by decide +kernel
theorem dX1_hear_142 : decode cX1_hear 142 = .ok (.goto 4, 3) := by decide +kernel
theorem dX1_hear_145 : decode cX1_hear 145 = .ok (.iconst 0, 1) := by decide +kernel
theorem dX1_hear_146 : decode cX1_hear 146 = .ok (.iadd, 1) := by decide +kernel
theorem dX1_hear_147 : decode cX1_hear 147 = .ok (.istore 9, 2) := by decide +kernel
theorem dX1_hear_149 : decode cX1_hear 149 = .ok (.iload 13, 2) := by decide +kernel
theorem dX1_hear_151 : decode cX1_hear 151 = .ok (.istore 10, 2) := by decide +kernel
theorem dX1_hear_153 : decode cX1_hear 153 = .ok (.iinc 11 1, 3) := by decide +kernel
theorem dX1_hear_156 : decode cX1_hear 156 = .ok (.goto (-104), 3) := by decide +kernel
theorem dX1_hear_159 : decode cX1_hear 159 = .ok (.aload_n 0, 1) := by decide +kernel
theorem dX1_hear_160 : decode cX1_hear 160 = .ok (.getfield 9, 3) := by decide +kernel
theorem dX1_hear_163 : decode cX1_hear 163 = .ok (.iload_n 2, 1) := by decide +kernel
theorem dX1_hear_164 : decode cX1_hear 164 = .ok (.iload 8, 2) := by decide +kernel
theorem dX1_hear_166 : decode cX1_hear 166 = .ok (.iastore, 1) := by decide +kernel
theorem dX1_hear_167 : decode cX1_hear 167 = .ok (.aload_n 0, 1) := by decide +kernel
theorem dX1_hear_168 : decode cX1_hear 168 = .ok (.getfield 15, 3) := by decide +kernel
theorem dX1_hear_171 : decode cX1_hear 171 = .ok (.iload_n 2, 1) := by decide +kernel
theorem dX1_hear_172 : decode cX1_hear 172 = .ok (.iload 4, 2) := by decide +kernel
theorem dX1_hear_174 : decode cX1_hear 174 = .ok (.iconst 1, 1) := by decide +kernel
theorem dX1_hear_175 : decode cX1_hear 175 = .ok (.if_icmp .ge 7, 3) := by decide +kernel
theorem dX1_hear_178 : decode cX1_hear 178 = .ok (.iconst 0, 1) := by decide +kernel
theorem dX1_hear_179 : decode cX1_hear 179 = .ok (.goto 11, 3) := by decide +kernel
theorem dX1_hear_182 : decode cX1_hear 182 = .ok (.iload 8, 2) := by decide +kernel
theorem dX1_hear_184 : decode cX1_hear 184 = .ok (.bipush 100, 2) := by decide +kernel
theorem dX1_hear_186 : decode cX1_hear 186 = .ok (.imul, 1) := by decide +kernel
theorem dX1_hear_187 : decode cX1_hear 187 = .ok (.iload 4, 2) := by decide +kernel
theorem dX1_hear_189 : decode cX1_hear 189 = .ok (.idiv, 1) := by decide +kernel
theorem dX1_hear_190 : decode cX1_hear 190 = .ok (.iastore, 1) := by decide +kernel
theorem dX1_hear_191 : decode cX1_hear 191 = .ok (.aload_n 0, 1) := by decide +kernel
theorem dX1_hear_192 : decode cX1_hear 192 = .ok (.getfield 18, 3) := by decide +kernel
theorem dX1_hear_195 : decode cX1_hear 195 = .ok (.iload_n 2, 1) := by decide +kernel
theorem dX1_hear_196 : decode cX1_hear 196 = .ok (.iload 9, 2) := by decide +kernel
theorem dX1_hear_198 : decode cX1_hear 198 = .ok (.iastore, 1) := by decide +kernel
theorem dX1_hear_199 : decode cX1_hear 199 = .ok (.aload_n 0, 1) := by decide +kernel
theorem dX1_hear_200 : decode cX1_hear 200 = .ok (.getfield 21, 3) := by decide +kernel
theorem dX1_hear_203 : decode cX1_hear 203 = .ok (.iload_n 2, 1) := by decide +kernel
theorem dX1_hear_204 : decode cX1_hear 204 = .ok (.aload_n 1, 1) := by decide +kernel
theorem dX1_hear_205 : decode cX1_hear 205 = .ok (.iload 5, 2) := by decide +kernel
theorem dX1_hear_207 : decode cX1_hear 207 = .ok (.invokevirtual 100, 3) := by decide +kernel
theorem dX1_hear_210 : decode cX1_hear 210 = .ok (.iastore, 1) := by decide +kernel
theorem dX1_hear_211 : decode cX1_hear 211 = .ok (.aload_n 0, 1) := by decide +kernel
theorem dX1_hear_212 : decode cX1_hear 212 = .ok (.getfield 24, 3) := by decide +kernel
theorem dX1_hear_215 : decode cX1_hear 215 = .ok (.iload_n 2, 1) := by decide +kernel
theorem dX1_hear_216 : decode cX1_hear 216 = .ok (.aload_n 0, 1) := by decide +kernel
theorem dX1_hear_217 : decode cX1_hear 217 = .ok (.iload_n 2, 1) := by decide +kernel
theorem dX1_hear_218 : decode cX1_hear 218 = .ok (.iload 7, 2) := by decide +kernel
theorem dX1_hear_220 : decode cX1_hear 220 = .ok (.aload_n 1, 1) := by decide +kernel
theorem dX1_hear_221 : decode cX1_hear 221 = .ok (.iconst 4, 1) := by decide +kernel
theorem dX1_hear_222 : decode cX1_hear 222 = .ok (.invokevirtual 73, 3) := by decide +kernel
theorem dX1_hear_225 : decode cX1_hear 225 = .ok (.invokevirtual 103, 3) := by decide +kernel
theorem dX1_hear_228 : decode cX1_hear 228 = .ok (.iastore, 1) := by decide +kernel
theorem dX1_hear_229 : decode cX1_hear 229 = .ok (.return_, 1) := by decide +kernel
theorem dX1_isBarLine_0 : decode cX1_isBarLine 0 = .ok (.iload_n 1, 1) := by decide +kernel
theorem dX1_isBarLine_1 : decode cX1_isBarLine 1 = .ok (.ifCond .le 17, 3) := by decide +kernel
theorem dX1_isBarLine_4 : decode cX1_isBarLine 4 = .ok (.iload_n 0, 1) := by decide +kernel
theorem dX1_isBarLine_5 : decode cX1_isBarLine 5 = .ok (.ifCond .le 13, 3) := by decide +kernel
theorem dX1_isBarLine_8 : decode cX1_isBarLine 8 = .ok (.iload_n 0, 1) := by decide +kernel
theorem dX1_isBarLine_9 : decode cX1_isBarLine 9 = .ok (.iload_n 1, 1) := by decide +kernel
theorem dX1_isBarLine_10 : decode cX1_isBarLine 10 = .ok (.irem, 1) := by decide +kernel
theorem dX1_isBarLine_11 : decode cX1_isBarLine 11 = .ok (.ifCond .ne 7, 3) := by decide +kernel
theorem dX1_isBarLine_14 : decode cX1_isBarLine 14 = .ok (.iconst 1, 1) := by decide +kernel
theorem dX1_isBarLine_15 : decode cX1_isBarLine 15 = .ok (.goto 4, 3) := by decide +kernel
theorem dX1_isBarLine_18 : decode cX1_isBarLine 18 = .ok (.iconst 0, 1) := by decide +kernel
theorem dX1_isBarLine_19 : decode cX1_isBarLine 19 = .ok (.ireturn, 1) := by decide +kernel
theorem dX1_reasonFor_0 : decode cX1_reasonFor 0 = .ok (.iload_n 2, 1) := by decide +kernel
theorem dX1_reasonFor_1 : decode cX1_reasonFor 1 = .ok (.ifCond .ne 5, 3) := by decide +kernel
theorem dX1_reasonFor_4 : decode cX1_reasonFor 4 = .ok (.iconst 1, 1) := by decide +kernel
theorem dX1_reasonFor_5 : decode cX1_reasonFor 5 = .ok (.ireturn, 1) := by decide +kernel
theorem dX1_reasonFor_6 : decode cX1_reasonFor 6 = .ok (.aload_n 0, 1) := by decide +kernel
theorem dX1_reasonFor_7 : decode cX1_reasonFor 7 = .ok (.iload_n 1, 1) := by decide +kernel
theorem dX1_reasonFor_8 : decode cX1_reasonFor 8 = .ok (.invokevirtual 107, 3) := by decide +kernel
theorem dX1_reasonFor_11 : decode cX1_reasonFor 11 = .ok (.ifCond .ne 5, 3) := by decide +kernel
theorem dX1_reasonFor_14 : decode cX1_reasonFor 14 = .ok (.iconst 2, 1) := by decide +kernel
theorem dX1_reasonFor_15 : decode cX1_reasonFor 15 = .ok (.ireturn, 1) := by decide +kernel
theorem dX1_reasonFor_16 : decode cX1_reasonFor 16 = .ok (.aload_n 0, 1) := by decide +kernel
theorem dX1_reasonFor_17 : decode cX1_reasonFor 17 = .ok (.iload_n 1, 1) := by decide +kernel
theorem dX1_reasonFor_18 : decode cX1_reasonFor 18 = .ok (.invokevirtual 110, 3) := by decide +kernel
theorem dX1_reasonFor_21 : decode cX1_reasonFor 21 = .ok (.bipush (-5), 2) := by decide +kernel
theorem dX1_reasonFor_23 : decode cX1_reasonFor 23 = .ok (.if_icmp .ne 5, 3) := by decide +kernel
theorem dX1_reasonFor_26 : decode cX1_reasonFor 26 = .ok (.iconst 3, 1) := by decide +kernel
theorem dX1_reasonFor_27 : decode cX1_reasonFor 27 = .ok (.ireturn, 1) := by decide +kernel
theorem dX1_reasonFor_28 : decode cX1_reasonFor 28 = .ok (.aload_n 0, 1) := by decide +kernel
theorem dX1_reasonFor_29 : decode cX1_reasonFor 29 = .ok (.iload_n 1, 1) := by decide +kernel
theorem dX1_reasonFor_30 : decode cX1_reasonFor 30 = .ok (.invokevirtual 113, 3) := by decide +kernel
theorem dX1_reasonFor_33 : decode cX1_reasonFor 33 = .ok (.iload_n 3, 1) := by decide +kernel
theorem dX1_reasonFor_34 : decode cX1_reasonFor 34 = .ok (.if_icmp .ge 7, 3) := by decide +kernel
theorem dX1_reasonFor_37 : decode cX1_reasonFor 37 = .ok (.iconst 4, 1) := by decide +kernel
theorem dX1_reasonFor_38 : decode cX1_reasonFor 38 = .ok (.goto 4, 3) := by decide +kernel
theorem dX1_reasonFor_41 : decode cX1_reasonFor 41 = .ok (.iconst 0, 1) := by decide +kernel
theorem dX1_reasonFor_42 : decode cX1_reasonFor 42 = .ok (.ireturn, 1) := by decide +kernel
theorem dX1_score_0 : decode cX1_score 0 = .ok (.aload_n 0, 1) := by decide +kernel
theorem dX1_score_1 : decode cX1_score 1 = .ok (.iconst 0, 1) := by decide +kernel
theorem dX1_score_2 : decode cX1_score 2 = .ok (.putfield 42, 3) := by decide +kernel
theorem dX1_score_5 : decode cX1_score 5 = .ok (.aload_n 0, 1) := by decide +kernel
theorem dX1_score_6 : decode cX1_score 6 = .ok (.iconst 0, 1) := by decide +kernel
theorem dX1_score_7 : decode cX1_score 7 = .ok (.putfield 46, 3) := by decide +kernel
theorem dX1_score_10 : decode cX1_score 10 = .ok (.iconst 0, 1) := by decide +kernel
theorem dX1_score_11 : decode cX1_score 11 = .ok (.istore_n 2, 1) := by decide +kernel
theorem dX1_score_12 : decode cX1_score 12 = .ok (.iconst 0, 1) := by decide +kernel
theorem dX1_score_13 : decode cX1_score 13 = .ok (.istore_n 3, 1) := by decide +kernel
theorem dX1_score_14 : decode cX1_score 14 = .ok (.iload_n 3, 1) := by decide +kernel
theorem dX1_score_15 : decode cX1_score 15 = .ok (.aload_n 1, 1) := by decide +kernel
theorem dX1_score_16 : decode cX1_score 16 = .ok (.invokevirtual 55, 3) := by decide +kernel
theorem dX1_score_19 : decode cX1_score 19 = .ok (.if_icmp .ge 149, 3) := by decide +kernel
theorem dX1_score_22 : decode cX1_score 22 = .ok (.iload_n 3, 1) := by decide +kernel
theorem dX1_score_23 : decode cX1_score 23 = .ok (.bipush 40, 2) := by decide +kernel
theorem dX1_score_25 : decode cX1_score 25 = .ok (.if_icmp .ge 143, 3) := by decide +kernel
theorem dX1_score_28 : decode cX1_score 28 = .ok (.aload_n 1, 1) := by decide +kernel
theorem dX1_score_29 : decode cX1_score 29 = .ok (.iload_n 3, 1) := by decide +kernel
theorem dX1_score_30 : decode cX1_score 30 = .ok (.invokevirtual 116, 3) := by decide +kernel
theorem dX1_score_33 : decode cX1_score 33 = .ok (.istore 4, 2) := by decide +kernel
theorem dX1_score_35 : decode cX1_score 35 = .ok (.iload 4, 2) := by decide +kernel
theorem dX1_score_37 : decode cX1_score 37 = .ok (.iconst 0, 1) := by decide +kernel
theorem dX1_score_38 : decode cX1_score 38 = .ok (.bipush 39, 2) := by decide +kernel
theorem dX1_score_40 : decode cX1_score 40 = .ok (.invokestatic 83, 3) := by decide +kernel
theorem dX1_score_43 : decode cX1_score 43 = .ok (.ifCond .ne 4, 3) := by decide +kernel
theorem dX1_score_46 : decode cX1_score 46 = .ok (.return_, 1) := by decide +kernel
theorem dX1_score_47 : decode cX1_score 47 = .ok (.aload_n 1, 1) := by decide +kernel
theorem dX1_score_48 : decode cX1_score 48 = .ok (.iload_n 3, 1) := by decide +kernel
theorem dX1_score_49 : decode cX1_score 49 = .ok (.invokevirtual 119, 3) := by decide +kernel
theorem dX1_score_52 : decode cX1_score 52 = .ok (.ifCond .eq 11, 3) := by decide +kernel
theorem dX1_score_55 : decode cX1_score 55 = .ok (.aload_n 0, 1) := by decide +kernel
theorem dX1_score_56 : decode cX1_score 56 = .ok (.iload 4, 2) := by decide +kernel
theorem dX1_score_58 : decode cX1_score 58 = .ok (.invokevirtual 123, 3) := by decide +kernel
theorem dX1_score_61 : decode cX1_score 61 = .ok (.iconst 0, 1) := by decide +kernel
theorem dX1_score_62 : decode cX1_score 62 = .ok (.istore_n 2, 1) := by decide +kernel
theorem dX1_score_63 : decode cX1_score 63 = .ok (.aload_n 0, 1) := by decide +kernel
theorem dX1_score_64 : decode cX1_score 64 = .ok (.getfield 27, 3) := by decide +kernel
theorem dX1_score_67 : decode cX1_score 67 = .ok (.iload_n 3, 1) := by decide +kernel
theorem dX1_score_68 : decode cX1_score 68 = .ok (.iload_n 2, 1) := by decide +kernel
theorem dX1_score_69 : decode cX1_score 69 = .ok (.bipush 10, 2) := by decide +kernel
theorem dX1_score_71 : decode cX1_score 71 = .ok (.invokestatic 127, 3) := by decide +kernel
theorem dX1_score_74 : decode cX1_score 74 = .ok (.iastore, 1) := by decide +kernel
theorem dX1_score_75 : decode cX1_score 75 = .ok (.aload_n 0, 1) := by decide +kernel
theorem dX1_score_76 : decode cX1_score 76 = .ok (.getfield 30, 3) := by decide +kernel
theorem dX1_score_79 : decode cX1_score 79 = .ok (.iload_n 3, 1) := by decide +kernel
theorem dX1_score_80 : decode cX1_score 80 = .ok (.aload_n 0, 1) := by decide +kernel
theorem dX1_score_81 : decode cX1_score 81 = .ok (.aload_n 1, 1) := by decide +kernel
theorem dX1_score_82 : decode cX1_score 82 = .ok (.iload_n 3, 1) := by decide +kernel
theorem dX1_score_83 : decode cX1_score 83 = .ok (.invokevirtual 132, 3) := by decide +kernel
theorem dX1_score_86 : decode cX1_score 86 = .ok (.iastore, 1) := by decide +kernel
theorem dX1_score_87 : decode cX1_score 87 = .ok (.aload_n 0, 1) := by decide +kernel
theorem dX1_score_88 : decode cX1_score 88 = .ok (.getfield 36, 3) := by decide +kernel
theorem dX1_score_91 : decode cX1_score 91 = .ok (.iload 4, 2) := by decide +kernel
theorem dX1_score_93 : decode cX1_score 93 = .ok (.dup2, 1) := by decide +kernel
theorem dX1_score_94 : decode cX1_score 94 = .ok (.iaload, 1) := by decide +kernel
theorem dX1_score_95 : decode cX1_score 95 = .ok (.aload_n 0, 1) := by decide +kernel
theorem dX1_score_96 : decode cX1_score 96 = .ok (.getfield 30, 3) := by decide +kernel
theorem dX1_score_99 : decode cX1_score 99 = .ok (.iload_n 3, 1) := by decide +kernel
theorem dX1_score_100 : decode cX1_score 100 = .ok (.iaload, 1) := by decide +kernel
theorem dX1_score_101 : decode cX1_score 101 = .ok (.iadd, 1) := by decide +kernel
theorem dX1_score_102 : decode cX1_score 102 = .ok (.iastore, 1) := by decide +kernel
theorem dX1_score_103 : decode cX1_score 103 = .ok (.aload_n 0, 1) := by decide +kernel
theorem dX1_score_104 : decode cX1_score 104 = .ok (.getfield 24, 3) := by decide +kernel
theorem dX1_score_107 : decode cX1_score 107 = .ok (.iload_n 3, 1) := by decide +kernel
theorem dX1_score_108 : decode cX1_score 108 = .ok (.iaload, 1) := by decide +kernel
theorem dX1_score_109 : decode cX1_score 109 = .ok (.ifCond .ne 9, 3) := by decide +kernel
theorem dX1_score_112 : decode cX1_score 112 = .ok (.iload_n 2, 1) := by decide +kernel
theorem dX1_score_113 : decode cX1_score 113 = .ok (.iconst 1, 1) := by decide +kernel
theorem dX1_score_114 : decode cX1_score 114 = .ok (.iadd, 1) := by decide +kernel
theorem dX1_score_115 : decode cX1_score 115 = .ok (.goto 4, 3) := by decide +kernel
theorem dX1_score_118 : decode cX1_score 118 = .ok (.iconst 0, 1) := by decide +kernel
theorem dX1_score_119 : decode cX1_score 119 = .ok (.istore_n 2, 1) := by decide +kernel
theorem dX1_score_120 : decode cX1_score 120 = .ok (.aload_n 0, 1) := by decide +kernel
theorem dX1_score_121 : decode cX1_score 121 = .ok (.getfield 33, 3) := by decide +kernel
theorem dX1_score_124 : decode cX1_score 124 = .ok (.iload 4, 2) := by decide +kernel
theorem dX1_score_126 : decode cX1_score 126 = .ok (.dup2, 1) := by decide +kernel
theorem dX1_score_127 : decode cX1_score 127 = .ok (.iaload, 1) := by decide +kernel
theorem dX1_score_128 : decode cX1_score 128 = .ok (.aload_n 0, 1) := by decide +kernel
theorem dX1_score_129 : decode cX1_score 129 = .ok (.getfield 24, 3) := by decide +kernel
theorem dX1_score_132 : decode cX1_score 132 = .ok (.iload_n 3, 1) := by decide +kernel
theorem dX1_score_133 : decode cX1_score 133 = .ok (.iaload, 1) := by decide +kernel
theorem dX1_score_134 : decode cX1_score 134 = .ok (.ifCond .ne 7, 3) := by decide +kernel
theorem dX1_score_137 : decode cX1_score 137 = .ok (.iconst 1, 1) := by decide +kernel
theorem dX1_score_138 : decode cX1_score 138 = .ok (.goto 4, 3) := by decide +kernel
theorem dX1_score_141 : decode cX1_score 141 = .ok (.iconst 0, 1) := by decide +kernel
theorem dX1_score_142 : decode cX1_score 142 = .ok (.iadd, 1) := by decide +kernel
theorem dX1_score_143 : decode cX1_score 143 = .ok (.iastore, 1) := by decide +kernel
theorem dX1_score_144 : decode cX1_score 144 = .ok (.aload_n 0, 1) := by decide +kernel
theorem dX1_score_145 : decode cX1_score 145 = .ok (.getfield 39, 3) := by decide +kernel
theorem dX1_score_148 : decode cX1_score 148 = .ok (.iload 4, 2) := by decide +kernel
theorem dX1_score_150 : decode cX1_score 150 = .ok (.aload_n 0, 1) := by decide +kernel
theorem dX1_score_151 : decode cX1_score 151 = .ok (.getfield 39, 3) := by decide +kernel
theorem dX1_score_154 : decode cX1_score 154 = .ok (.iload 4, 2) := by decide +kernel
theorem dX1_score_156 : decode cX1_score 156 = .ok (.iaload, 1) := by decide +kernel
theorem dX1_score_157 : decode cX1_score 157 = .ok (.iload_n 2, 1) := by decide +kernel
theorem dX1_score_158 : decode cX1_score 158 = .ok (.invokestatic 136, 3) := by decide +kernel
theorem dX1_score_161 : decode cX1_score 161 = .ok (.iastore, 1) := by decide +kernel
theorem dX1_score_162 : decode cX1_score 162 = .ok (.iinc 3 1, 3) := by decide +kernel
theorem dX1_score_165 : decode cX1_score 165 = .ok (.goto (-151), 3) := by decide +kernel
theorem dX1_score_168 : decode cX1_score 168 = .ok (.iconst 0, 1) := by decide +kernel
theorem dX1_score_169 : decode cX1_score 169 = .ok (.istore_n 3, 1) := by decide +kernel
theorem dX1_score_170 : decode cX1_score 170 = .ok (.iload_n 3, 1) := by decide +kernel
theorem dX1_score_171 : decode cX1_score 171 = .ok (.aload_n 1, 1) := by decide +kernel
theorem dX1_score_172 : decode cX1_score 172 = .ok (.invokevirtual 139, 3) := by decide +kernel
theorem dX1_score_175 : decode cX1_score 175 = .ok (.if_icmp .ge 68, 3) := by decide +kernel
theorem dX1_score_178 : decode cX1_score 178 = .ok (.iload_n 3, 1) := by decide +kernel
theorem dX1_score_179 : decode cX1_score 179 = .ok (.bipush 40, 2) := by decide +kernel
theorem dX1_score_181 : decode cX1_score 181 = .ok (.if_icmp .ge 62, 3) := by decide +kernel
theorem dX1_score_184 : decode cX1_score 184 = .ok (.aload_n 0, 1) := by decide +kernel
theorem dX1_score_185 : decode cX1_score 185 = .ok (.getfield 36, 3) := by decide +kernel
theorem dX1_score_188 : decode cX1_score 188 = .ok (.iload_n 3, 1) := by decide +kernel
theorem dX1_score_189 : decode cX1_score 189 = .ok (.dup2, 1) := by decide +kernel
theorem dX1_score_190 : decode cX1_score 190 = .ok (.iaload, 1) := by decide +kernel
theorem dX1_score_191 : decode cX1_score 191 = .ok (.aload_n 0, 1) := by decide +kernel
theorem dX1_score_192 : decode cX1_score 192 = .ok (.getfield 33, 3) := by decide +kernel
theorem dX1_score_195 : decode cX1_score 195 = .ok (.iload_n 3, 1) := by decide +kernel
theorem dX1_score_196 : decode cX1_score 196 = .ok (.iaload, 1) := by decide +kernel
theorem dX1_score_197 : decode cX1_score 197 = .ok (.aload_n 1, 1) := by decide +kernel
theorem dX1_score_198 : decode cX1_score 198 = .ok (.iload_n 3, 1) := by decide +kernel
theorem dX1_score_199 : decode cX1_score 199 = .ok (.invokevirtual 142, 3) := by decide +kernel
theorem dX1_score_202 : decode cX1_score 202 = .ok (.invokestatic 145, 3) := by decide +kernel
theorem dX1_score_205 : decode cX1_score 205 = .ok (.iadd, 1) := by decide +kernel
theorem dX1_score_206 : decode cX1_score 206 = .ok (.iastore, 1) := by decide +kernel
theorem dX1_score_207 : decode cX1_score 207 = .ok (.aload_n 0, 1) := by decide +kernel
theorem dX1_score_208 : decode cX1_score 208 = .ok (.dup, 1) := by decide +kernel
theorem dX1_score_209 : decode cX1_score 209 = .ok (.getfield 42, 3) := by decide +kernel
theorem dX1_score_212 : decode cX1_score 212 = .ok (.aload_n 0, 1) := by decide +kernel
theorem dX1_score_213 : decode cX1_score 213 = .ok (.getfield 33, 3) := by decide +kernel
theorem dX1_score_216 : decode cX1_score 216 = .ok (.iload_n 3, 1) := by decide +kernel
theorem dX1_score_217 : decode cX1_score 217 = .ok (.iaload, 1) := by decide +kernel
theorem dX1_score_218 : decode cX1_score 218 = .ok (.iadd, 1) := by decide +kernel
theorem dX1_score_219 : decode cX1_score 219 = .ok (.putfield 42, 3) := by decide +kernel
theorem dX1_score_222 : decode cX1_score 222 = .ok (.aload_n 0, 1) := by decide +kernel
theorem dX1_score_223 : decode cX1_score 223 = .ok (.dup, 1) := by decide +kernel
theorem dX1_score_224 : decode cX1_score 224 = .ok (.getfield 46, 3) := by decide +kernel
theorem dX1_score_227 : decode cX1_score 227 = .ok (.aload_n 0, 1) := by decide +kernel
theorem dX1_score_228 : decode cX1_score 228 = .ok (.getfield 36, 3) := by decide +kernel
theorem dX1_score_231 : decode cX1_score 231 = .ok (.iload_n 3, 1) := by decide +kernel
theorem dX1_score_232 : decode cX1_score 232 = .ok (.iaload, 1) := by decide +kernel
theorem dX1_score_233 : decode cX1_score 233 = .ok (.iadd, 1) := by decide +kernel
theorem dX1_score_234 : decode cX1_score 234 = .ok (.putfield 46, 3) := by decide +kernel
theorem dX1_score_237 : decode cX1_score 237 = .ok (.iinc 3 1, 3) := by decide +kernel
theorem dX1_score_240 : decode cX1_score 240 = .ok (.goto (-70), 3) := by decide +kernel
theorem dX1_score_243 : decode cX1_score 243 = .ok (.return_, 1) := by decide +kernel
theorem dX1_beginPhrase_0 : decode cX1_beginPhrase 0 = .ok (.iload_n 1, 1) := by decide +kernel
theorem dX1_beginPhrase_1 : decode cX1_beginPhrase 1 = .ok (.iconst 0, 1) := by decide +kernel
theorem dX1_beginPhrase_2 : decode cX1_beginPhrase 2 = .ok (.bipush 39, 2) := by decide +kernel
theorem dX1_beginPhrase_4 : decode cX1_beginPhrase 4 = .ok (.invokestatic 83, 3) := by decide +kernel
theorem dX1_beginPhrase_7 : decode cX1_beginPhrase 7 = .ok (.ifCond .eq 24, 3) := by decide +kernel
theorem dX1_beginPhrase_10 : decode cX1_beginPhrase 10 = .ok (.aload_n 0, 1) := by decide +kernel
theorem dX1_beginPhrase_11 : decode cX1_beginPhrase 11 = .ok (.getfield 33, 3) := by decide +kernel
theorem dX1_beginPhrase_14 : decode cX1_beginPhrase 14 = .ok (.iload_n 1, 1) := by decide +kernel
theorem dX1_beginPhrase_15 : decode cX1_beginPhrase 15 = .ok (.iconst 0, 1) := by decide +kernel
theorem dX1_beginPhrase_16 : decode cX1_beginPhrase 16 = .ok (.iastore, 1) := by decide +kernel
theorem dX1_beginPhrase_17 : decode cX1_beginPhrase 17 = .ok (.aload_n 0, 1) := by decide +kernel
theorem dX1_beginPhrase_18 : decode cX1_beginPhrase 18 = .ok (.getfield 36, 3) := by decide +kernel
theorem dX1_beginPhrase_21 : decode cX1_beginPhrase 21 = .ok (.iload_n 1, 1) := by decide +kernel
theorem dX1_beginPhrase_22 : decode cX1_beginPhrase 22 = .ok (.iconst 0, 1) := by decide +kernel
theorem dX1_beginPhrase_23 : decode cX1_beginPhrase 23 = .ok (.iastore, 1) := by decide +kernel
theorem dX1_beginPhrase_24 : decode cX1_beginPhrase 24 = .ok (.aload_n 0, 1) := by decide +kernel
theorem dX1_beginPhrase_25 : decode cX1_beginPhrase 25 = .ok (.getfield 39, 3) := by decide +kernel
theorem dX1_beginPhrase_28 : decode cX1_beginPhrase 28 = .ok (.iload_n 1, 1) := by decide +kernel
theorem dX1_beginPhrase_29 : decode cX1_beginPhrase 29 = .ok (.iconst 0, 1) := by decide +kernel
theorem dX1_beginPhrase_30 : decode cX1_beginPhrase 30 = .ok (.iastore, 1) := by decide +kernel
theorem dX1_beginPhrase_31 : decode cX1_beginPhrase 31 = .ok (.return_, 1) := by decide +kernel
theorem dX1_scoreOf_0 : decode cX1_scoreOf 0 = .ok (.iload_n 2, 1) := by decide +kernel
theorem dX1_scoreOf_1 : decode cX1_scoreOf 1 = .ok (.iconst 0, 1) := by decide +kernel
theorem dX1_scoreOf_2 : decode cX1_scoreOf 2 = .ok (.bipush 39, 2) := by decide +kernel
theorem dX1_scoreOf_4 : decode cX1_scoreOf 4 = .ok (.invokestatic 83, 3) := by decide +kernel
theorem dX1_scoreOf_7 : decode cX1_scoreOf 7 = .ok (.ifCond .eq 12, 3) := by decide +kernel
theorem dX1_scoreOf_10 : decode cX1_scoreOf 10 = .ok (.aload_n 0, 1) := by decide +kernel
theorem dX1_scoreOf_11 : decode cX1_scoreOf 11 = .ok (.getfield 24, 3) := by decide +kernel
theorem dX1_scoreOf_14 : decode cX1_scoreOf 14 = .ok (.iload_n 2, 1) := by decide +kernel
theorem dX1_scoreOf_15 : decode cX1_scoreOf 15 = .ok (.iaload, 1) := by decide +kernel
theorem dX1_scoreOf_16 : decode cX1_scoreOf 16 = .ok (.ifCond .eq 5, 3) := by decide +kernel
theorem dX1_scoreOf_19 : decode cX1_scoreOf 19 = .ok (.iconst 0, 1) := by decide +kernel
theorem dX1_scoreOf_20 : decode cX1_scoreOf 20 = .ok (.ireturn, 1) := by decide +kernel
theorem dX1_scoreOf_21 : decode cX1_scoreOf 21 = .ok (.aload_n 0, 1) := by decide +kernel
theorem dX1_scoreOf_22 : decode cX1_scoreOf 22 = .ok (.getfield 21, 3) := by decide +kernel
theorem dX1_scoreOf_25 : decode cX1_scoreOf 25 = .ok (.iload_n 2, 1) := by decide +kernel
theorem dX1_scoreOf_26 : decode cX1_scoreOf 26 = .ok (.iaload, 1) := by decide +kernel
theorem dX1_scoreOf_27 : decode cX1_scoreOf 27 = .ok (.aload_n 1, 1) := by decide +kernel
theorem dX1_scoreOf_28 : decode cX1_scoreOf 28 = .ok (.iload_n 2, 1) := by decide +kernel
theorem dX1_scoreOf_29 : decode cX1_scoreOf 29 = .ok (.invokevirtual 80, 3) := by decide +kernel
theorem dX1_scoreOf_32 : decode cX1_scoreOf 32 = .ok (.isub, 1) := by decide +kernel
theorem dX1_scoreOf_33 : decode cX1_scoreOf 33 = .ok (.invokestatic 148, 3) := by decide +kernel
theorem dX1_scoreOf_36 : decode cX1_scoreOf 36 = .ok (.istore_n 3, 1) := by decide +kernel
theorem dX1_scoreOf_37 : decode cX1_scoreOf 37 = .ok (.aload_n 0, 1) := by decide +kernel
theorem dX1_scoreOf_38 : decode cX1_scoreOf 38 = .ok (.getfield 15, 3) := by decide +kernel
theorem dX1_scoreOf_41 : decode cX1_scoreOf 41 = .ok (.iload_n 2, 1) := by decide +kernel
theorem dX1_scoreOf_42 : decode cX1_scoreOf 42 = .ok (.iaload, 1) := by decide +kernel
theorem dX1_scoreOf_43 : decode cX1_scoreOf 43 = .ok (.iconst 5, 1) := by decide +kernel
theorem dX1_scoreOf_44 : decode cX1_scoreOf 44 = .ok (.aload_n 0, 1) := by decide +kernel
theorem dX1_scoreOf_45 : decode cX1_scoreOf 45 = .ok (.getfield 18, 3) := by decide +kernel
theorem dX1_scoreOf_48 : decode cX1_scoreOf 48 = .ok (.iload_n 2, 1) := by decide +kernel
theorem dX1_scoreOf_49 : decode cX1_scoreOf 49 = .ok (.iaload, 1) := by decide +kernel
theorem dX1_scoreOf_50 : decode cX1_scoreOf 50 = .ok (.imul, 1) := by decide +kernel
theorem dX1_scoreOf_51 : decode cX1_scoreOf 51 = .ok (.iadd, 1) := by decide +kernel
theorem dX1_scoreOf_52 : decode cX1_scoreOf 52 = .ok (.iconst 2, 1) := by decide +kernel
theorem dX1_scoreOf_53 : decode cX1_scoreOf 53 = .ok (.iload_n 3, 1) := by decide +kernel
theorem dX1_scoreOf_54 : decode cX1_scoreOf 54 = .ok (.imul, 1) := by decide +kernel
theorem dX1_scoreOf_55 : decode cX1_scoreOf 55 = .ok (.isub, 1) := by decide +kernel
theorem dX1_scoreOf_56 : decode cX1_scoreOf 56 = .ok (.istore 4, 2) := by decide +kernel
theorem dX1_scoreOf_58 : decode cX1_scoreOf 58 = .ok (.iconst 0, 1) := by decide +kernel
theorem dX1_scoreOf_59 : decode cX1_scoreOf 59 = .ok (.iload 4, 2) := by decide +kernel
theorem dX1_scoreOf_61 : decode cX1_scoreOf 61 = .ok (.invokestatic 136, 3) := by decide +kernel
theorem dX1_scoreOf_64 : decode cX1_scoreOf 64 = .ok (.bipush 10, 2) := by decide +kernel
theorem dX1_scoreOf_66 : decode cX1_scoreOf 66 = .ok (.aload_n 0, 1) := by decide +kernel
theorem dX1_scoreOf_67 : decode cX1_scoreOf 67 = .ok (.getfield 27, 3) := by decide +kernel
theorem dX1_scoreOf_70 : decode cX1_scoreOf 70 = .ok (.iload_n 2, 1) := by decide +kernel
theorem dX1_scoreOf_71 : decode cX1_scoreOf 71 = .ok (.iaload, 1) := by decide +kernel
theorem dX1_scoreOf_72 : decode cX1_scoreOf 72 = .ok (.iadd, 1) := by decide +kernel
theorem dX1_scoreOf_73 : decode cX1_scoreOf 73 = .ok (.imul, 1) := by decide +kernel
theorem dX1_scoreOf_74 : decode cX1_scoreOf 74 = .ok (.bipush 10, 2) := by decide +kernel
theorem dX1_scoreOf_76 : decode cX1_scoreOf 76 = .ok (.idiv, 1) := by decide +kernel
theorem dX1_scoreOf_77 : decode cX1_scoreOf 77 = .ok (.ireturn, 1) := by decide +kernel
theorem dX1_extraOf_0 : decode cX1_extraOf 0 = .ok (.iload_n 1, 1) := by decide +kernel
theorem dX1_extraOf_1 : decode cX1_extraOf 1 = .ok (.iconst 2, 1) := by decide +kernel
theorem dX1_extraOf_2 : decode cX1_extraOf 2 = .ok (.if_icmp .lt 13, 3) := by decide +kernel
theorem dX1_extraOf_5 : decode cX1_extraOf 5 = .ok (.iload_n 0, 1) := by decide +kernel
theorem dX1_extraOf_6 : decode cX1_extraOf 6 = .ok (.iload_n 1, 1) := by decide +kernel
theorem dX1_extraOf_7 : decode cX1_extraOf 7 = .ok (.if_icmp .ne 8, 3) := by decide +kernel
theorem dX1_extraOf_10 : decode cX1_extraOf 10 = .ok (.bipush 50, 2) := by decide +kernel
theorem dX1_extraOf_12 : decode cX1_extraOf 12 = .ok (.goto 4, 3) := by decide +kernel
theorem dX1_extraOf_15 : decode cX1_extraOf 15 = .ok (.iconst 0, 1) := by decide +kernel
theorem dX1_extraOf_16 : decode cX1_extraOf 16 = .ok (.ireturn, 1) := by decide +kernel
theorem dX1_valueIn_0 : decode cX1_valueIn 0 = .ok (.iload_n 1, 1) := by decide +kernel
theorem dX1_valueIn_1 : decode cX1_valueIn 1 = .ok (.ifCond .lt 15, 3) := by decide +kernel
theorem dX1_valueIn_4 : decode cX1_valueIn 4 = .ok (.iload_n 1, 1) := by decide +kernel
theorem dX1_valueIn_5 : decode cX1_valueIn 5 = .ok (.aload_n 0, 1) := by decide +kernel
theorem dX1_valueIn_6 : decode cX1_valueIn 6 = .ok (.arraylength, 1) := by decide +kernel
theorem dX1_valueIn_7 : decode cX1_valueIn 7 = .ok (.if_icmp .ge 9, 3) := by decide +kernel
theorem dX1_valueIn_10 : decode cX1_valueIn 10 = .ok (.aload_n 0, 1) := by decide +kernel
theorem dX1_valueIn_11 : decode cX1_valueIn 11 = .ok (.iload_n 1, 1) := by decide +kernel
theorem dX1_valueIn_12 : decode cX1_valueIn 12 = .ok (.iaload, 1) := by decide +kernel
theorem dX1_valueIn_13 : decode cX1_valueIn 13 = .ok (.goto 4, 3) := by decide +kernel
theorem dX1_valueIn_16 : decode cX1_valueIn 16 = .ok (.iconst 0, 1) := by decide +kernel
theorem dX1_valueIn_17 : decode cX1_valueIn 17 = .ok (.ireturn, 1) := by decide +kernel
theorem dX1_matchesOf_0 : decode cX1_matchesOf 0 = .ok (.aload_n 0, 1) := by decide +kernel
theorem dX1_matchesOf_1 : decode cX1_matchesOf 1 = .ok (.getfield 9, 3) := by decide +kernel
theorem dX1_matchesOf_4 : decode cX1_matchesOf 4 = .ok (.iload_n 1, 1) := by decide +kernel
theorem dX1_matchesOf_5 : decode cX1_matchesOf 5 = .ok (.invokestatic 151, 3) := by decide +kernel
theorem dX1_matchesOf_8 : decode cX1_matchesOf 8 = .ok (.ireturn, 1) := by decide +kernel
theorem dX1_shareOf_0 : decode cX1_shareOf 0 = .ok (.aload_n 0, 1) := by decide +kernel
theorem dX1_shareOf_1 : decode cX1_shareOf 1 = .ok (.getfield 15, 3) := by decide +kernel
theorem dX1_shareOf_4 : decode cX1_shareOf 4 = .ok (.iload_n 1, 1) := by decide +kernel
theorem dX1_shareOf_5 : decode cX1_shareOf 5 = .ok (.invokestatic 151, 3) := by decide +kernel
theorem dX1_shareOf_8 : decode cX1_shareOf 8 = .ok (.ireturn, 1) := by decide +kernel
theorem dX1_onsetOf_0 : decode cX1_onsetOf 0 = .ok (.aload_n 0, 1) := by decide +kernel
theorem dX1_onsetOf_1 : decode cX1_onsetOf 1 = .ok (.getfield 21, 3) := by decide +kernel
theorem dX1_onsetOf_4 : decode cX1_onsetOf 4 = .ok (.iload_n 1, 1) := by decide +kernel
theorem dX1_onsetOf_5 : decode cX1_onsetOf 5 = .ok (.invokestatic 151, 3) := by decide +kernel
theorem dX1_onsetOf_8 : decode cX1_onsetOf 8 = .ok (.ireturn, 1) := by decide +kernel
theorem dX1_reasonOf_0 : decode cX1_reasonOf 0 = .ok (.aload_n 0, 1) := by decide +kernel
theorem dX1_reasonOf_1 : decode cX1_reasonOf 1 = .ok (.getfield 24, 3) := by decide +kernel
theorem dX1_reasonOf_4 : decode cX1_reasonOf 4 = .ok (.iload_n 1, 1) := by decide +kernel
theorem dX1_reasonOf_5 : decode cX1_reasonOf 5 = .ok (.invokestatic 151, 3) := by decide +kernel
theorem dX1_reasonOf_8 : decode cX1_reasonOf 8 = .ok (.ireturn, 1) := by decide +kernel
theorem dX1_pointsOf_0 : decode cX1_pointsOf 0 = .ok (.aload_n 0, 1) := by decide +kernel
theorem dX1_pointsOf_1 : decode cX1_pointsOf 1 = .ok (.getfield 30, 3) := by decide +kernel
theorem dX1_pointsOf_4 : decode cX1_pointsOf 4 = .ok (.iload_n 1, 1) := by decide +kernel
theorem dX1_pointsOf_5 : decode cX1_pointsOf 5 = .ok (.invokestatic 151, 3) := by decide +kernel
theorem dX1_pointsOf_8 : decode cX1_pointsOf 8 = .ok (.ireturn, 1) := by decide +kernel
theorem dX1_rowAheadOf_0 : decode cX1_rowAheadOf 0 = .ok (.aload_n 0, 1) := by decide +kernel
theorem dX1_rowAheadOf_1 : decode cX1_rowAheadOf 1 = .ok (.getfield 27, 3) := by decide +kernel
theorem dX1_rowAheadOf_4 : decode cX1_rowAheadOf 4 = .ok (.iload_n 1, 1) := by decide +kernel
theorem dX1_rowAheadOf_5 : decode cX1_rowAheadOf 5 = .ok (.invokestatic 151, 3) := by decide +kernel
theorem dX1_rowAheadOf_8 : decode cX1_rowAheadOf 8 = .ok (.ireturn, 1) := by decide +kernel
theorem dX1_phraseHitsOf_0 : decode cX1_phraseHitsOf 0 = .ok (.aload_n 0, 1) := by decide +kernel
theorem dX1_phraseHitsOf_1 : decode cX1_phraseHitsOf 1 = .ok (.getfield 33, 3) := by decide +kernel
theorem dX1_phraseHitsOf_4 : decode cX1_phraseHitsOf 4 = .ok (.iload_n 1, 1) := by decide +kernel
theorem dX1_phraseHitsOf_5 : decode cX1_phraseHitsOf 5 = .ok (.invokestatic 151, 3) := by decide +kernel
theorem dX1_phraseHitsOf_8 : decode cX1_phraseHitsOf 8 = .ok (.ireturn, 1) := by decide +kernel
theorem dX1_phrasePointsOf_0 : decode cX1_phrasePointsOf 0 = .ok (.aload_n 0, 1) := by decide +kernel
theorem dX1_phrasePointsOf_1 : decode cX1_phrasePointsOf 1 = .ok (.getfield 36, 3) := by decide +kernel
theorem dX1_phrasePointsOf_4 : decode cX1_phrasePointsOf 4 = .ok (.iload_n 1, 1) := by decide +kernel
theorem dX1_phrasePointsOf_5 : decode cX1_phrasePointsOf 5 = .ok (.invokestatic 151, 3) := by decide +kernel
theorem dX1_phrasePointsOf_8 : decode cX1_phrasePointsOf 8 = .ok (.ireturn, 1) := by decide +kernel
theorem dX1_longestRowOf_0 : decode cX1_longestRowOf 0 = .ok (.aload_n 0, 1) := by decide +kernel
theorem dX1_longestRowOf_1 : decode cX1_longestRowOf 1 = .ok (.getfield 39, 3) := by decide +kernel
theorem dX1_longestRowOf_4 : decode cX1_longestRowOf 4 = .ok (.iload_n 1, 1) := by decide +kernel
theorem dX1_longestRowOf_5 : decode cX1_longestRowOf 5 = .ok (.invokestatic 151, 3) := by decide +kernel
theorem dX1_longestRowOf_8 : decode cX1_longestRowOf 8 = .ok (.ireturn, 1) := by decide +kernel
theorem dX2_init_0 : decode cX2_init 0 = .ok (.aload_n 0, 1) := by decide +kernel
theorem dX2_init_1 : decode cX2_init 1 = .ok (.invokespecial 3, 3) := by decide +kernel
theorem dX2_init_4 : decode cX2_init 4 = .ok (.aload_n 0, 1) := by decide +kernel
theorem dX2_init_5 : decode cX2_init 5 = .ok (.iconst 0, 1) := by decide +kernel
theorem dX2_init_6 : decode cX2_init 6 = .ok (.putfield 9, 3) := by decide +kernel
theorem dX2_init_9 : decode cX2_init 9 = .ok (.aload_n 0, 1) := by decide +kernel
theorem dX2_init_10 : decode cX2_init 10 = .ok (.iconst 0, 1) := by decide +kernel
theorem dX2_init_11 : decode cX2_init 11 = .ok (.putfield 15, 3) := by decide +kernel
theorem dX2_init_14 : decode cX2_init 14 = .ok (.aload_n 0, 1) := by decide +kernel
theorem dX2_init_15 : decode cX2_init 15 = .ok (.iconst 0, 1) := by decide +kernel
theorem dX2_init_16 : decode cX2_init 16 = .ok (.putfield 19, 3) := by decide +kernel
theorem dX2_init_19 : decode cX2_init 19 = .ok (.return_, 1) := by decide +kernel
theorem dX3_init_0 : decode cX3_init 0 = .ok (.aload_n 0, 1) := by decide +kernel
theorem dX3_init_1 : decode cX3_init 1 = .ok (.invokespecial 3, 3) := by decide +kernel
theorem dX3_init_4 : decode cX3_init 4 = .ok (.aload_n 0, 1) := by decide +kernel
theorem dX3_init_5 : decode cX3_init 5 = .ok (.bipush 40, 2) := by decide +kernel
theorem dX3_init_7 : decode cX3_init 7 = .ok (.newarray .int, 2) := by decide +kernel
theorem dX3_init_9 : decode cX3_init 9 = .ok (.putfield 9, 3) := by decide +kernel
theorem dX3_init_12 : decode cX3_init 12 = .ok (.aload_n 0, 1) := by decide +kernel
theorem dX3_init_13 : decode cX3_init 13 = .ok (.bipush 40, 2) := by decide +kernel
theorem dX3_init_15 : decode cX3_init 15 = .ok (.newarray .int, 2) := by decide +kernel
theorem dX3_init_17 : decode cX3_init 17 = .ok (.putfield 15, 3) := by decide +kernel
theorem dX3_init_20 : decode cX3_init 20 = .ok (.aload_n 0, 1) := by decide +kernel
theorem dX3_init_21 : decode cX3_init 21 = .ok (.bipush 40, 2) := by decide +kernel
theorem dX3_init_23 : decode cX3_init 23 = .ok (.newarray .int, 2) := by decide +kernel
theorem dX3_init_25 : decode cX3_init 25 = .ok (.putfield 18, 3) := by decide +kernel
theorem dX3_init_28 : decode cX3_init 28 = .ok (.aload_n 0, 1) := by decide +kernel
theorem dX3_init_29 : decode cX3_init 29 = .ok (.bipush 40, 2) := by decide +kernel
theorem dX3_init_31 : decode cX3_init 31 = .ok (.newarray .int, 2) := by decide +kernel
theorem dX3_init_33 : decode cX3_init 33 = .ok (.putfield 21, 3) := by decide +kernel
theorem dX3_init_36 : decode cX3_init 36 = .ok (.aload_n 0, 1) := by decide +kernel
theorem dX3_init_37 : decode cX3_init 37 = .ok (.bipush 40, 2) := by decide +kernel
theorem dX3_init_39 : decode cX3_init 39 = .ok (.newarray .int, 2) := by decide +kernel
theorem dX3_init_41 : decode cX3_init 41 = .ok (.putfield 24, 3) := by decide +kernel
theorem dX3_init_44 : decode cX3_init 44 = .ok (.aload_n 0, 1) := by decide +kernel
theorem dX3_init_45 : decode cX3_init 45 = .ok (.iconst 0, 1) := by decide +kernel
theorem dX3_init_46 : decode cX3_init 46 = .ok (.putfield 27, 3) := by decide +kernel
theorem dX3_init_49 : decode cX3_init 49 = .ok (.return_, 1) := by decide +kernel
theorem dX3_size_0 : decode cX3_size 0 = .ok (.aload_n 0, 1) := by decide +kernel
theorem dX3_size_1 : decode cX3_size 1 = .ok (.getfield 27, 3) := by decide +kernel
theorem dX3_size_4 : decode cX3_size 4 = .ok (.ireturn, 1) := by decide +kernel
theorem dX3_has_0 : decode cX3_has 0 = .ok (.iload_n 1, 1) := by decide +kernel
theorem dX3_has_1 : decode cX3_has 1 = .ok (.ifCond .lt 21, 3) := by decide +kernel
theorem dX3_has_4 : decode cX3_has 4 = .ok (.iload_n 1, 1) := by decide +kernel
theorem dX3_has_5 : decode cX3_has 5 = .ok (.aload_n 0, 1) := by decide +kernel
theorem dX3_has_6 : decode cX3_has 6 = .ok (.getfield 27, 3) := by decide +kernel
theorem dX3_has_9 : decode cX3_has 9 = .ok (.if_icmp .ge 13, 3) := by decide +kernel
theorem dX3_has_12 : decode cX3_has 12 = .ok (.iload_n 1, 1) := by decide +kernel
theorem dX3_has_13 : decode cX3_has 13 = .ok (.bipush 40, 2) := by decide +kernel
theorem dX3_has_15 : decode cX3_has 15 = .ok (.if_icmp .ge 7, 3) := by decide +kernel
theorem dX3_has_18 : decode cX3_has 18 = .ok (.iconst 1, 1) := by decide +kernel
theorem dX3_has_19 : decode cX3_has 19 = .ok (.goto 4, 3) := by decide +kernel
theorem dX3_has_22 : decode cX3_has 22 = .ok (.iconst 0, 1) := by decide +kernel
theorem dX3_has_23 : decode cX3_has 23 = .ok (.ireturn, 1) := by decide +kernel
theorem dX3_beginningOf_0 : decode cX3_beginningOf 0 = .ok (.aload_n 0, 1) := by decide +kernel
theorem dX3_beginningOf_1 : decode cX3_beginningOf 1 = .ok (.iload_n 1, 1) := by decide +kernel
theorem dX3_beginningOf_2 : decode cX3_beginningOf 2 = .ok (.invokevirtual 31, 3) := by decide +kernel
theorem dX3_beginningOf_5 : decode cX3_beginningOf 5 = .ok (.ifCond .eq 12, 3) := by decide +kernel
theorem dX3_beginningOf_8 : decode cX3_beginningOf 8 = .ok (.aload_n 0, 1) := by decide +kernel
theorem dX3_beginningOf_9 : decode cX3_beginningOf 9 = .ok (.getfield 9, 3) := by decide +kernel
theorem dX3_beginningOf_12 : decode cX3_beginningOf 12 = .ok (.iload_n 1, 1) := by decide +kernel
theorem dX3_beginningOf_13 : decode cX3_beginningOf 13 = .ok (.iaload, 1) := by decide +kernel
theorem dX3_beginningOf_14 : decode cX3_beginningOf 14 = .ok (.goto 4, 3) := by decide +kernel
theorem dX3_beginningOf_17 : decode cX3_beginningOf 17 = .ok (.iconst 0, 1) := by decide +kernel
theorem dX3_beginningOf_18 : decode cX3_beginningOf 18 = .ok (.ireturn, 1) := by decide +kernel
theorem dX3_lengthOf_0 : decode cX3_lengthOf 0 = .ok (.aload_n 0, 1) := by decide +kernel
theorem dX3_lengthOf_1 : decode cX3_lengthOf 1 = .ok (.iload_n 1, 1) := by decide +kernel
theorem dX3_lengthOf_2 : decode cX3_lengthOf 2 = .ok (.invokevirtual 31, 3) := by decide +kernel
theorem dX3_lengthOf_5 : decode cX3_lengthOf 5 = .ok (.ifCond .eq 12, 3) := by decide +kernel
theorem dX3_lengthOf_8 : decode cX3_lengthOf 8 = .ok (.aload_n 0, 1) := by decide +kernel
theorem dX3_lengthOf_9 : decode cX3_lengthOf 9 = .ok (.getfield 15, 3) := by decide +kernel
theorem dX3_lengthOf_12 : decode cX3_lengthOf 12 = .ok (.iload_n 1, 1) := by decide +kernel
theorem dX3_lengthOf_13 : decode cX3_lengthOf 13 = .ok (.iaload, 1) := by decide +kernel
theorem dX3_lengthOf_14 : decode cX3_lengthOf 14 = .ok (.goto 4, 3) := by decide +kernel
theorem dX3_lengthOf_17 : decode cX3_lengthOf 17 = .ok (.iconst 0, 1) := by decide +kernel
theorem dX3_lengthOf_18 : decode cX3_lengthOf 18 = .ok (.ireturn, 1) := by decide +kernel
theorem dX3_pitchOf_0 : decode cX3_pitchOf 0 = .ok (.aload_n 0, 1) := by decide +kernel
theorem dX3_pitchOf_1 : decode cX3_pitchOf 1 = .ok (.iload_n 1, 1) := by decide +kernel
theorem dX3_pitchOf_2 : decode cX3_pitchOf 2 = .ok (.invokevirtual 31, 3) := by decide +kernel
theorem dX3_pitchOf_5 : decode cX3_pitchOf 5 = .ok (.ifCond .eq 12, 3) := by decide +kernel
theorem dX3_pitchOf_8 : decode cX3_pitchOf 8 = .ok (.aload_n 0, 1) := by decide +kernel
theorem dX3_pitchOf_9 : decode cX3_pitchOf 9 = .ok (.getfield 18, 3) := by decide +kernel
theorem dX3_pitchOf_12 : decode cX3_pitchOf 12 = .ok (.iload_n 1, 1) := by decide +kernel
theorem dX3_pitchOf_13 : decode cX3_pitchOf 13 = .ok (.iaload, 1) := by decide +kernel
theorem dX3_pitchOf_14 : decode cX3_pitchOf 14 = .ok (.goto 4, 3) := by decide +kernel
theorem dX3_pitchOf_17 : decode cX3_pitchOf 17 = .ok (.iconst 0, 1) := by decide +kernel
theorem dX3_pitchOf_18 : decode cX3_pitchOf 18 = .ok (.ireturn, 1) := by decide +kernel
theorem dX3_endPitchOf_0 : decode cX3_endPitchOf 0 = .ok (.aload_n 0, 1) := by decide +kernel
theorem dX3_endPitchOf_1 : decode cX3_endPitchOf 1 = .ok (.iload_n 1, 1) := by decide +kernel
theorem dX3_endPitchOf_2 : decode cX3_endPitchOf 2 = .ok (.invokevirtual 31, 3) := by decide +kernel
theorem dX3_endPitchOf_5 : decode cX3_endPitchOf 5 = .ok (.ifCond .eq 12, 3) := by decide +kernel
theorem dX3_endPitchOf_8 : decode cX3_endPitchOf 8 = .ok (.aload_n 0, 1) := by decide +kernel
theorem dX3_endPitchOf_9 : decode cX3_endPitchOf 9 = .ok (.getfield 21, 3) := by decide +kernel
theorem dX3_endPitchOf_12 : decode cX3_endPitchOf 12 = .ok (.iload_n 1, 1) := by decide +kernel
theorem dX3_endPitchOf_13 : decode cX3_endPitchOf 13 = .ok (.iaload, 1) := by decide +kernel
theorem dX3_endPitchOf_14 : decode cX3_endPitchOf 14 = .ok (.goto 4, 3) := by decide +kernel
theorem dX3_endPitchOf_17 : decode cX3_endPitchOf 17 = .ok (.iconst 0, 1) := by decide +kernel
theorem dX3_endPitchOf_18 : decode cX3_endPitchOf 18 = .ok (.ireturn, 1) := by decide +kernel
theorem dX3_phraseOf_0 : decode cX3_phraseOf 0 = .ok (.aload_n 0, 1) := by decide +kernel
theorem dX3_phraseOf_1 : decode cX3_phraseOf 1 = .ok (.iload_n 1, 1) := by decide +kernel
theorem dX3_phraseOf_2 : decode cX3_phraseOf 2 = .ok (.invokevirtual 31, 3) := by decide +kernel
theorem dX3_phraseOf_5 : decode cX3_phraseOf 5 = .ok (.ifCond .eq 12, 3) := by decide +kernel
theorem dX3_phraseOf_8 : decode cX3_phraseOf 8 = .ok (.aload_n 0, 1) := by decide +kernel
theorem dX3_phraseOf_9 : decode cX3_phraseOf 9 = .ok (.getfield 24, 3) := by decide +kernel
theorem dX3_phraseOf_12 : decode cX3_phraseOf 12 = .ok (.iload_n 1, 1) := by decide +kernel
theorem dX3_phraseOf_13 : decode cX3_phraseOf 13 = .ok (.iaload, 1) := by decide +kernel
theorem dX3_phraseOf_14 : decode cX3_phraseOf 14 = .ok (.goto 5, 3) := by decide +kernel
theorem dX3_phraseOf_17 : decode cX3_phraseOf 17 = .ok (.bipush (-5), 2) := by decide +kernel
theorem dX3_phraseOf_19 : decode cX3_phraseOf 19 = .ok (.ireturn, 1) := by decide +kernel
theorem dX3_ticks_0 : decode cX3_ticks 0 = .ok (.aload_n 0, 1) := by decide +kernel
theorem dX3_ticks_1 : decode cX3_ticks 1 = .ok (.aload_n 0, 1) := by decide +kernel
theorem dX3_ticks_2 : decode cX3_ticks 2 = .ok (.getfield 27, 3) := by decide +kernel
theorem dX3_ticks_5 : decode cX3_ticks 5 = .ok (.iconst 1, 1) := by decide +kernel
theorem dX3_ticks_6 : decode cX3_ticks 6 = .ok (.isub, 1) := by decide +kernel
theorem dX3_ticks_7 : decode cX3_ticks 7 = .ok (.invokevirtual 35, 3) := by decide +kernel
theorem dX3_ticks_10 : decode cX3_ticks 10 = .ok (.aload_n 0, 1) := by decide +kernel
theorem dX3_ticks_11 : decode cX3_ticks 11 = .ok (.aload_n 0, 1) := by decide +kernel
theorem dX3_ticks_12 : decode cX3_ticks 12 = .ok (.getfield 27, 3) := by decide +kernel
theorem dX3_ticks_15 : decode cX3_ticks 15 = .ok (.iconst 1, 1) := by decide +kernel
theorem dX3_ticks_16 : decode cX3_ticks 16 = .ok (.isub, 1) := by decide +kernel
theorem dX3_ticks_17 : decode cX3_ticks 17 = .ok (.invokevirtual 39, 3) := by decide +kernel
theorem dX3_ticks_20 : decode cX3_ticks 20 = .ok (.iadd, 1) := by decide +kernel
theorem dX3_ticks_21 : decode cX3_ticks 21 = .ok (.ireturn, 1) := by decide +kernel
theorem dX3_phraseCount_0 : decode cX3_phraseCount 0 = .ok (.aload_n 0, 1) := by decide +kernel
theorem dX3_phraseCount_1 : decode cX3_phraseCount 1 = .ok (.getfield 27, 3) := by decide +kernel
theorem dX3_phraseCount_4 : decode cX3_phraseCount 4 = .ok (.ifCond .ne 7, 3) := by decide +kernel
theorem dX3_phraseCount_7 : decode cX3_phraseCount 7 = .ok (.iconst 0, 1) := by decide +kernel
theorem dX3_phraseCount_8 : decode cX3_phraseCount 8 = .ok (.goto 15, 3) := by decide +kernel
theorem dX3_phraseCount_11 : decode cX3_phraseCount 11 = .ok (.aload_n 0, 1) := by decide +kernel
theorem dX3_phraseCount_12 : decode cX3_phraseCount 12 = .ok (.aload_n 0, 1) := by decide +kernel
theorem dX3_phraseCount_13 : decode cX3_phraseCount 13 = .ok (.getfield 27, 3) := by decide +kernel
theorem dX3_phraseCount_16 : decode cX3_phraseCount 16 = .ok (.iconst 1, 1) := by decide +kernel
theorem dX3_phraseCount_17 : decode cX3_phraseCount 17 = .ok (.isub, 1) := by decide +kernel
theorem dX3_phraseCount_18 : decode cX3_phraseCount 18 = .ok (.invokevirtual 42, 3) := by decide +kernel
theorem dX3_phraseCount_21 : decode cX3_phraseCount 21 = .ok (.iconst 1, 1) := by decide +kernel
theorem dX3_phraseCount_22 : decode cX3_phraseCount 22 = .ok (.iadd, 1) := by decide +kernel
theorem dX3_phraseCount_23 : decode cX3_phraseCount 23 = .ok (.ireturn, 1) := by decide +kernel
theorem dX3_firstOfPhrase_0 : decode cX3_firstOfPhrase 0 = .ok (.iconst 0, 1) := by decide +kernel
theorem dX3_firstOfPhrase_1 : decode cX3_firstOfPhrase 1 = .ok (.istore_n 2, 1) := by decide +kernel
theorem dX3_firstOfPhrase_2 : decode cX3_firstOfPhrase 2 = .ok (.iload_n 2, 1) := by decide +kernel
theorem dX3_firstOfPhrase_3 : decode cX3_firstOfPhrase 3 = .ok (.aload_n 0, 1) := by decide +kernel
theorem dX3_firstOfPhrase_4 : decode cX3_firstOfPhrase 4 = .ok (.getfield 27, 3) := by decide +kernel
theorem dX3_firstOfPhrase_7 : decode cX3_firstOfPhrase 7 = .ok (.if_icmp .ge 20, 3) := by decide +kernel
theorem dX3_firstOfPhrase_10 : decode cX3_firstOfPhrase 10 = .ok (.aload_n 0, 1) := by decide +kernel
theorem dX3_firstOfPhrase_11 : decode cX3_firstOfPhrase 11 = .ok (.iload_n 2, 1) := by decide +kernel
theorem dX3_firstOfPhrase_12 : decode cX3_firstOfPhrase 12 = .ok (.invokevirtual 42, 3) := by decide +kernel
theorem dX3_firstOfPhrase_15 : decode cX3_firstOfPhrase 15 = .ok (.iload_n 1, 1) := by decide +kernel
theorem dX3_firstOfPhrase_16 : decode cX3_firstOfPhrase 16 = .ok (.if_icmp .ne 5, 3) := by decide +kernel
theorem dX3_firstOfPhrase_19 : decode cX3_firstOfPhrase 19 = .ok (.iload_n 2, 1) := by decide +kernel
theorem dX3_firstOfPhrase_20 : decode cX3_firstOfPhrase 20 = .ok (.ireturn, 1) := by decide +kernel
theorem dX3_firstOfPhrase_21 : decode cX3_firstOfPhrase 21 = .ok (.iinc 2 1, 3) := by decide +kernel
theorem dX3_firstOfPhrase_24 : decode cX3_firstOfPhrase 24 = .ok (.goto (-22), 3) := by decide +kernel
theorem dX3_firstOfPhrase_27 : decode cX3_firstOfPhrase 27 = .ok (.bipush (-5), 2) := by decide +kernel
theorem dX3_firstOfPhrase_29 : decode cX3_firstOfPhrase 29 = .ok (.ireturn, 1) := by decide +kernel
theorem dX3_sizeOfPhrase_0 : decode cX3_sizeOfPhrase 0 = .ok (.iconst 0, 1) := by decide +kernel
theorem dX3_sizeOfPhrase_1 : decode cX3_sizeOfPhrase 1 = .ok (.istore_n 2, 1) := by decide +kernel
theorem dX3_sizeOfPhrase_2 : decode cX3_sizeOfPhrase 2 = .ok (.iconst 0, 1) := by decide +kernel
theorem dX3_sizeOfPhrase_3 : decode cX3_sizeOfPhrase 3 = .ok (.istore_n 3, 1) := by decide +kernel
theorem dX3_sizeOfPhrase_4 : decode cX3_sizeOfPhrase 4 = .ok (.iload_n 3, 1) := by decide +kernel
theorem dX3_sizeOfPhrase_5 : decode cX3_sizeOfPhrase 5 = .ok (.aload_n 0, 1) := by decide +kernel
theorem dX3_sizeOfPhrase_6 : decode cX3_sizeOfPhrase 6 = .ok (.getfield 27, 3) := by decide +kernel
theorem dX3_sizeOfPhrase_9 : decode cX3_sizeOfPhrase 9 = .ok (.if_icmp .ge 21, 3) := by decide +kernel
theorem dX3_sizeOfPhrase_12 : decode cX3_sizeOfPhrase 12 = .ok (.aload_n 0, 1) := by decide +kernel
theorem dX3_sizeOfPhrase_13 : decode cX3_sizeOfPhrase 13 = .ok (.iload_n 3, 1) := by decide +kernel
theorem dX3_sizeOfPhrase_14 : decode cX3_sizeOfPhrase 14 = .ok (.invokevirtual 42, 3) := by decide +kernel
theorem dX3_sizeOfPhrase_17 : decode cX3_sizeOfPhrase 17 = .ok (.iload_n 1, 1) := by decide +kernel
theorem dX3_sizeOfPhrase_18 : decode cX3_sizeOfPhrase 18 = .ok (.if_icmp .ne 6, 3) := by decide +kernel
theorem dX3_sizeOfPhrase_21 : decode cX3_sizeOfPhrase 21 = .ok (.iinc 2 1, 3) := by decide +kernel
theorem dX3_sizeOfPhrase_24 : decode cX3_sizeOfPhrase 24 = .ok (.iinc 3 1, 3) := by decide +kernel
theorem dX3_sizeOfPhrase_27 : decode cX3_sizeOfPhrase 27 = .ok (.goto (-23), 3) := by decide +kernel
theorem dX3_sizeOfPhrase_30 : decode cX3_sizeOfPhrase 30 = .ok (.iload_n 2, 1) := by decide +kernel
theorem dX3_sizeOfPhrase_31 : decode cX3_sizeOfPhrase 31 = .ok (.ireturn, 1) := by decide +kernel
theorem dX3_beginsPhrase_0 : decode cX3_beginsPhrase 0 = .ok (.iload_n 1, 1) := by decide +kernel
theorem dX3_beginsPhrase_1 : decode cX3_beginsPhrase 1 = .ok (.ifCond .eq 18, 3) := by decide +kernel
theorem dX3_beginsPhrase_4 : decode cX3_beginsPhrase 4 = .ok (.aload_n 0, 1) := by decide +kernel
theorem dX3_beginsPhrase_5 : decode cX3_beginsPhrase 5 = .ok (.iload_n 1, 1) := by decide +kernel
theorem dX3_beginsPhrase_6 : decode cX3_beginsPhrase 6 = .ok (.invokevirtual 42, 3) := by decide +kernel
theorem dX3_beginsPhrase_9 : decode cX3_beginsPhrase 9 = .ok (.aload_n 0, 1) := by decide +kernel
theorem dX3_beginsPhrase_10 : decode cX3_beginsPhrase 10 = .ok (.iload_n 1, 1) := by decide +kernel
theorem dX3_beginsPhrase_11 : decode cX3_beginsPhrase 11 = .ok (.iconst 1, 1) := by decide +kernel
theorem dX3_beginsPhrase_12 : decode cX3_beginsPhrase 12 = .ok (.isub, 1) := by decide +kernel
theorem dX3_beginsPhrase_13 : decode cX3_beginsPhrase 13 = .ok (.invokevirtual 42, 3) := by decide +kernel
theorem dX3_beginsPhrase_16 : decode cX3_beginsPhrase 16 = .ok (.if_icmp .eq 7, 3) := by decide +kernel
theorem dX3_beginsPhrase_19 : decode cX3_beginsPhrase 19 = .ok (.iconst 1, 1) := by decide +kernel
theorem dX3_beginsPhrase_20 : decode cX3_beginsPhrase 20 = .ok (.goto 4, 3) := by decide +kernel
theorem dX3_beginsPhrase_23 : decode cX3_beginsPhrase 23 = .ok (.iconst 0, 1) := by decide +kernel
theorem dX3_beginsPhrase_24 : decode cX3_beginsPhrase 24 = .ok (.ireturn, 1) := by decide +kernel
theorem dX3_wantedOf_0 : decode cX3_wantedOf 0 = .ok (.aload_n 0, 1) := by decide +kernel
theorem dX3_wantedOf_1 : decode cX3_wantedOf 1 = .ok (.iload_n 1, 1) := by decide +kernel
theorem dX3_wantedOf_2 : decode cX3_wantedOf 2 = .ok (.invokevirtual 39, 3) := by decide +kernel
theorem dX3_wantedOf_5 : decode cX3_wantedOf 5 = .ok (.iconst 1, 1) := by decide +kernel
theorem dX3_wantedOf_6 : decode cX3_wantedOf 6 = .ok (.isub, 1) := by decide +kernel
theorem dX3_wantedOf_7 : decode cX3_wantedOf 7 = .ok (.istore_n 3, 1) := by decide +kernel
theorem dX3_wantedOf_8 : decode cX3_wantedOf 8 = .ok (.aload_n 0, 1) := by decide +kernel
theorem dX3_wantedOf_9 : decode cX3_wantedOf 9 = .ok (.iload_n 1, 1) := by decide +kernel
theorem dX3_wantedOf_10 : decode cX3_wantedOf 10 = .ok (.invokevirtual 45, 3) := by decide +kernel
theorem dX3_wantedOf_13 : decode cX3_wantedOf 13 = .ok (.istore 4, 2) := by decide +kernel
theorem dX3_wantedOf_15 : decode cX3_wantedOf 15 = .ok (.iload_n 3, 1) := by decide +kernel
theorem dX3_wantedOf_16 : decode cX3_wantedOf 16 = .ok (.iconst 1, 1) := by decide +kernel
theorem dX3_wantedOf_17 : decode cX3_wantedOf 17 = .ok (.if_icmp .ge 6, 3) := by decide +kernel
theorem dX3_wantedOf_20 : decode cX3_wantedOf 20 = .ok (.iload 4, 2) := by decide +kernel
theorem dX3_wantedOf_22 : decode cX3_wantedOf 22 = .ok (.ireturn, 1) := by decide +kernel
theorem dX3_wantedOf_23 : decode cX3_wantedOf 23 = .ok (.iload 4, 2) := by decide +kernel
theorem dX3_wantedOf_25 : decode cX3_wantedOf 25 = .ok (.aload_n 0, 1) := by decide +kernel
theorem dX3_wantedOf_26 : decode cX3_wantedOf 26 = .ok (.iload_n 1, 1) := by decide +kernel
theorem dX3_wantedOf_27 : decode cX3_wantedOf 27 = .ok (.invokevirtual 48, 3) := by decide +kernel
theorem dX3_wantedOf_30 : decode cX3_wantedOf 30 = .ok (.iload 4, 2) := by decide +kernel
theorem dX3_wantedOf_32 : decode cX3_wantedOf 32 = .ok (.isub, 1) := by decide +kernel
theorem dX3_wantedOf_33 : decode cX3_wantedOf 33 = .ok (.iload_n 2, 1) := by decide +kernel
theorem dX3_wantedOf_34 : decode cX3_wantedOf 34 = .ok (.imul, 1) := by decide +kernel
theorem dX3_wantedOf_35 : decode cX3_wantedOf 35 = .ok (.iload_n 3, 1) := by decide +kernel
theorem dX3_wantedOf_36 : decode cX3_wantedOf 36 = .ok (.idiv, 1) := by decide +kernel
theorem dX3_wantedOf_37 : decode cX3_wantedOf 37 = .ok (.iadd, 1) := by decide +kernel
theorem dX3_wantedOf_38 : decode cX3_wantedOf 38 = .ok (.ireturn, 1) := by decide +kernel
theorem dX3_barLinesOf_0 : decode cX3_barLinesOf 0 = .ok (.iload_n 2, 1) := by decide +kernel
theorem dX3_barLinesOf_1 : decode cX3_barLinesOf 1 = .ok (.iconst 1, 1) := by decide +kernel
theorem dX3_barLinesOf_2 : decode cX3_barLinesOf 2 = .ok (.if_icmp .ge 5, 3) := by decide +kernel
theorem dX3_barLinesOf_5 : decode cX3_barLinesOf 5 = .ok (.iconst 0, 1) := by decide +kernel
theorem dX3_barLinesOf_6 : decode cX3_barLinesOf 6 = .ok (.ireturn, 1) := by decide +kernel
theorem dX3_barLinesOf_7 : decode cX3_barLinesOf 7 = .ok (.aload_n 0, 1) := by decide +kernel
theorem dX3_barLinesOf_8 : decode cX3_barLinesOf 8 = .ok (.iload_n 1, 1) := by decide +kernel
theorem dX3_barLinesOf_9 : decode cX3_barLinesOf 9 = .ok (.invokevirtual 35, 3) := by decide +kernel
theorem dX3_barLinesOf_12 : decode cX3_barLinesOf 12 = .ok (.istore_n 3, 1) := by decide +kernel
theorem dX3_barLinesOf_13 : decode cX3_barLinesOf 13 = .ok (.iload_n 3, 1) := by decide +kernel
theorem dX3_barLinesOf_14 : decode cX3_barLinesOf 14 = .ok (.aload_n 0, 1) := by decide +kernel
theorem dX3_barLinesOf_15 : decode cX3_barLinesOf 15 = .ok (.iload_n 1, 1) := by decide +kernel
theorem dX3_barLinesOf_16 : decode cX3_barLinesOf 16 = .ok (.invokevirtual 39, 3) := by decide +kernel
theorem dX3_barLinesOf_19 : decode cX3_barLinesOf 19 = .ok (.iadd, 1) := by decide +kernel
theorem dX3_barLinesOf_20 : decode cX3_barLinesOf 20 = .ok (.iconst 1, 1) := by decide +kernel
theorem dX3_barLinesOf_21 : decode cX3_barLinesOf 21 = .ok (.isub, 1) := by decide +kernel
theorem dX3_barLinesOf_22 : decode cX3_barLinesOf 22 = .ok (.istore 4, 2) := by decide +kernel
theorem dX3_barLinesOf_24 : decode cX3_barLinesOf 24 = .ok (.iload 4, 2) := by decide +kernel
theorem dX3_barLinesOf_26 : decode cX3_barLinesOf 26 = .ok (.iload_n 2, 1) := by decide +kernel
theorem dX3_barLinesOf_27 : decode cX3_barLinesOf 27 = .ok (.idiv, 1) := by decide +kernel
theorem dX3_barLinesOf_28 : decode cX3_barLinesOf 28 = .ok (.iload_n 3, 1) := by decide +kernel
theorem dX3_barLinesOf_29 : decode cX3_barLinesOf 29 = .ok (.iload_n 2, 1) := by decide +kernel
theorem dX3_barLinesOf_30 : decode cX3_barLinesOf 30 = .ok (.idiv, 1) := by decide +kernel
theorem dX3_barLinesOf_31 : decode cX3_barLinesOf 31 = .ok (.isub, 1) := by decide +kernel
theorem dX3_barLinesOf_32 : decode cX3_barLinesOf 32 = .ok (.ireturn, 1) := by decide +kernel
theorem dX3_hasRoomFor_0 : decode cX3_hasRoomFor 0 = .ok (.aload_n 0, 1) := by decide +kernel
theorem dX3_hasRoomFor_1 : decode cX3_hasRoomFor 1 = .ok (.getfield 27, 3) := by decide +kernel
theorem dX3_hasRoomFor_4 : decode cX3_hasRoomFor 4 = .ok (.bipush 40, 2) := by decide +kernel
theorem dX3_hasRoomFor_6 : decode cX3_hasRoomFor 6 = .ok (.if_icmp .ge 21, 3) := by decide +kernel
theorem dX3_hasRoomFor_9 : decode cX3_hasRoomFor 9 = .ok (.aload_n 0, 1) := by decide +kernel
theorem dX3_hasRoomFor_10 : decode cX3_hasRoomFor 10 = .ok (.invokevirtual 51, 3) := by decide +kernel
theorem dX3_hasRoomFor_13 : decode cX3_hasRoomFor 13 = .ok (.iload_n 1, 1) := by decide +kernel
theorem dX3_hasRoomFor_14 : decode cX3_hasRoomFor 14 = .ok (.iadd, 1) := by decide +kernel
theorem dX3_hasRoomFor_15 : decode cX3_hasRoomFor 15 = .ok (.iload_n 2, 1) := by decide +kernel
theorem dX3_hasRoomFor_16 : decode cX3_hasRoomFor 16 = .ok (.iadd, 1) := by decide +kernel
theorem dX3_hasRoomFor_17 : decode cX3_hasRoomFor 17 = .ok (.sipush 600, 3) := by decide +kernel
theorem dX3_hasRoomFor_20 : decode cX3_hasRoomFor 20 = .ok (.if_icmp .gt 7, 3) := by decide +kernel
theorem dX3_hasRoomFor_23 : decode cX3_hasRoomFor 23 = .ok (.iconst 1, 1) := by decide +kernel
theorem dX3_hasRoomFor_24 : decode cX3_hasRoomFor 24 = .ok (.goto 4, 3) := by decide +kernel
theorem dX3_hasRoomFor_27 : decode cX3_hasRoomFor 27 = .ok (.iconst 0, 1) := by decide +kernel
theorem dX3_hasRoomFor_28 : decode cX3_hasRoomFor 28 = .ok (.ireturn, 1) := by decide +kernel
theorem dX3_append_0 : decode cX3_append 0 = .ok (.aload_n 0, 1) := by decide +kernel
theorem dX3_append_1 : decode cX3_append 1 = .ok (.getfield 27, 3) := by decide +kernel
theorem dX3_append_4 : decode cX3_append 4 = .ok (.ifCond .lt 12, 3) := by decide +kernel
theorem dX3_append_7 : decode cX3_append 7 = .ok (.aload_n 0, 1) := by decide +kernel
theorem dX3_append_8 : decode cX3_append 8 = .ok (.getfield 27, 3) := by decide +kernel
theorem dX3_append_11 : decode cX3_append 11 = .ok (.bipush 40, 2) := by decide +kernel
theorem dX3_append_13 : decode cX3_append 13 = .ok (.if_icmp .lt 6, 3) := by decide +kernel
theorem dX3_append_16 : decode cX3_append 16 = .ok (.bipush (-3), 2) := by decide +kernel
theorem dX3_append_18 : decode cX3_append 18 = .ok (.ireturn, 1) := by decide +kernel
theorem dX3_append_19 : decode cX3_append 19 = .ok (.aload_n 0, 1) := by decide +kernel
theorem dX3_append_20 : decode cX3_append 20 = .ok (.invokevirtual 51, 3) := by decide +kernel
theorem dX3_append_23 : decode cX3_append 23 = .ok (.iload_n 1, 1) := by decide +kernel
theorem dX3_append_24 : decode cX3_append 24 = .ok (.iadd, 1) := by decide +kernel
theorem dX3_append_25 : decode cX3_append 25 = .ok (.istore 6, 2) := by decide +kernel
theorem dX3_append_27 : decode cX3_append 27 = .ok (.aload_n 0, 1) := by decide +kernel
theorem dX3_append_28 : decode cX3_append 28 = .ok (.getfield 27, 3) := by decide +kernel
theorem dX3_append_31 : decode cX3_append 31 = .ok (.ifCond .eq 8, 3) := by decide +kernel
theorem dX3_append_34 : decode cX3_append 34 = .ok (.iload 5, 2) := by decide +kernel
theorem dX3_append_36 : decode cX3_append 36 = .ok (.ifCond .eq 10, 3) := by decide +kernel
theorem dX3_append_39 : decode cX3_append 39 = .ok (.aload_n 0, 1) := by decide +kernel
theorem dX3_append_40 : decode cX3_append 40 = .ok (.invokevirtual 55, 3) := by decide +kernel
theorem dX3_append_43 : decode cX3_append 43 = .ok (.goto 9, 3) := by decide +kernel
theorem dX3_append_46 : decode cX3_append 46 = .ok (.aload_n 0, 1) := by decide +kernel
theorem dX3_append_47 : decode cX3_append 47 = .ok (.invokevirtual 55, 3) := by decide +kernel
theorem dX3_append_50 : decode cX3_append 50 = .ok (.iconst 1, 1) := by decide +kernel
theorem dX3_append_51 : decode cX3_append 51 = .ok (.isub, 1) := by decide +kernel
theorem dX3_append_52 : decode cX3_append 52 = .ok (.istore 7, 2) := by decide +kernel
theorem dX3_append_54 : decode cX3_append 54 = .ok (.aload_n 0, 1) := by decide +kernel
theorem dX3_append_55 : decode cX3_append 55 = .ok (.getfield 9, 3) := by decide +kernel
theorem dX3_append_58 : decode cX3_append 58 = .ok (.aload_n 0, 1) := by decide +kernel
theorem dX3_append_59 : decode cX3_append 59 = .ok (.getfield 27, 3) := by decide +kernel
theorem dX3_append_62 : decode cX3_append 62 = .ok (.iload 6, 2) := by decide +kernel
theorem dX3_append_64 : decode cX3_append 64 = .ok (.iastore, 1) := by decide +kernel
theorem dX3_append_65 : decode cX3_append 65 = .ok (.aload_n 0, 1) := by decide +kernel
theorem dX3_append_66 : decode cX3_append 66 = .ok (.getfield 15, 3) := by decide +kernel
theorem dX3_append_69 : decode cX3_append 69 = .ok (.aload_n 0, 1) := by decide +kernel
theorem dX3_append_70 : decode cX3_append 70 = .ok (.getfield 27, 3) := by decide +kernel
theorem dX3_append_73 : decode cX3_append 73 = .ok (.iload 4, 2) := by decide +kernel
theorem dX3_append_75 : decode cX3_append 75 = .ok (.iastore, 1) := by decide +kernel
theorem dX3_append_76 : decode cX3_append 76 = .ok (.aload_n 0, 1) := by decide +kernel
theorem dX3_append_77 : decode cX3_append 77 = .ok (.getfield 18, 3) := by decide +kernel
theorem dX3_append_80 : decode cX3_append 80 = .ok (.aload_n 0, 1) := by decide +kernel
theorem dX3_append_81 : decode cX3_append 81 = .ok (.getfield 27, 3) := by decide +kernel
theorem dX3_append_84 : decode cX3_append 84 = .ok (.iload_n 2, 1) := by decide +kernel
theorem dX3_append_85 : decode cX3_append 85 = .ok (.iastore, 1) := by decide +kernel
theorem dX3_append_86 : decode cX3_append 86 = .ok (.aload_n 0, 1) := by decide +kernel
theorem dX3_append_87 : decode cX3_append 87 = .ok (.getfield 21, 3) := by decide +kernel
theorem dX3_append_90 : decode cX3_append 90 = .ok (.aload_n 0, 1) := by decide +kernel
theorem dX3_append_91 : decode cX3_append 91 = .ok (.getfield 27, 3) := by decide +kernel
theorem dX3_append_94 : decode cX3_append 94 = .ok (.iload_n 3, 1) := by decide +kernel
theorem dX3_append_95 : decode cX3_append 95 = .ok (.iastore, 1) := by decide +kernel
theorem dX3_append_96 : decode cX3_append 96 = .ok (.aload_n 0, 1) := by decide +kernel
theorem dX3_append_97 : decode cX3_append 97 = .ok (.getfield 24, 3) := by decide +kernel
theorem dX3_append_100 : decode cX3_append 100 = .ok (.aload_n 0, 1) := by decide +kernel
theorem dX3_append_101 : decode cX3_append 101 = .ok (.getfield 27, 3) := by decide +kernel
theorem dX3_append_104 : decode cX3_append 104 = .ok (.iload 7, 2) := by decide +kernel
theorem dX3_append_106 : decode cX3_append 106 = .ok (.iastore, 1) := by decide +kernel
theorem dX3_append_107 : decode cX3_append 107 = .ok (.aload_n 0, 1) := by decide +kernel
theorem dX3_append_108 : decode cX3_append 108 = .ok (.dup, 1) := by decide +kernel
theorem dX3_append_109 : decode cX3_append 109 = .ok (.getfield 27, 3) := by decide +kernel
theorem dX3_append_112 : decode cX3_append 112 = .ok (.iconst 1, 1) := by decide +kernel
theorem dX3_append_113 : decode cX3_append 113 = .ok (.iadd, 1) := by decide +kernel
theorem dX3_append_114 : decode cX3_append 114 = .ok (.putfield 27, 3) := by decide +kernel
theorem dX3_append_117 : decode cX3_append 117 = .ok (.iload 6, 2) := by decide +kernel
theorem dX3_append_119 : decode cX3_append 119 = .ok (.ireturn, 1) := by decide +kernel
theorem dX3_removeLast_0 : decode cX3_removeLast 0 = .ok (.aload_n 0, 1) := by decide +kernel
theorem dX3_removeLast_1 : decode cX3_removeLast 1 = .ok (.getfield 27, 3) := by decide +kernel
theorem dX3_removeLast_4 : decode cX3_removeLast 4 = .ok (.ifCond .le 13, 3) := by decide +kernel
theorem dX3_removeLast_7 : decode cX3_removeLast 7 = .ok (.aload_n 0, 1) := by decide +kernel
theorem dX3_removeLast_8 : decode cX3_removeLast 8 = .ok (.dup, 1) := by decide +kernel
theorem dX3_removeLast_9 : decode cX3_removeLast 9 = .ok (.getfield 27, 3) := by decide +kernel
theorem dX3_removeLast_12 : decode cX3_removeLast 12 = .ok (.iconst 1, 1) := by decide +kernel
theorem dX3_removeLast_13 : decode cX3_removeLast 13 = .ok (.isub, 1) := by decide +kernel
theorem dX3_removeLast_14 : decode cX3_removeLast 14 = .ok (.putfield 27, 3) := by decide +kernel
theorem dX3_removeLast_17 : decode cX3_removeLast 17 = .ok (.aload_n 0, 1) := by decide +kernel
theorem dX3_removeLast_18 : decode cX3_removeLast 18 = .ok (.getfield 27, 3) := by decide +kernel
theorem dX3_removeLast_21 : decode cX3_removeLast 21 = .ok (.ireturn, 1) := by decide +kernel
theorem dX3_copyFrom_0 : decode cX3_copyFrom 0 = .ok (.aload_n 1, 1) := by decide +kernel
theorem dX3_copyFrom_1 : decode cX3_copyFrom 1 = .ok (.getfield 9, 3) := by decide +kernel
theorem dX3_copyFrom_4 : decode cX3_copyFrom 4 = .ok (.iconst 0, 1) := by decide +kernel
theorem dX3_copyFrom_5 : decode cX3_copyFrom 5 = .ok (.aload_n 0, 1) := by decide +kernel
theorem dX3_copyFrom_6 : decode cX3_copyFrom 6 = .ok (.getfield 9, 3) := by decide +kernel
theorem dX3_copyFrom_9 : decode cX3_copyFrom 9 = .ok (.iconst 0, 1) := by decide +kernel
theorem dX3_copyFrom_10 : decode cX3_copyFrom 10 = .ok (.bipush 40, 2) := by decide +kernel
theorem dX3_copyFrom_12 : decode cX3_copyFrom 12 = .ok (.invokestatic 58, 3) := by decide +kernel
theorem dX3_copyFrom_15 : decode cX3_copyFrom 15 = .ok (.aload_n 1, 1) := by decide +kernel
theorem dX3_copyFrom_16 : decode cX3_copyFrom 16 = .ok (.getfield 15, 3) := by decide +kernel
theorem dX3_copyFrom_19 : decode cX3_copyFrom 19 = .ok (.iconst 0, 1) := by decide +kernel
theorem dX3_copyFrom_20 : decode cX3_copyFrom 20 = .ok (.aload_n 0, 1) := by decide +kernel
theorem dX3_copyFrom_21 : decode cX3_copyFrom 21 = .ok (.getfield 15, 3) := by decide +kernel
theorem dX3_copyFrom_24 : decode cX3_copyFrom 24 = .ok (.iconst 0, 1) := by decide +kernel
theorem dX3_copyFrom_25 : decode cX3_copyFrom 25 = .ok (.bipush 40, 2) := by decide +kernel
theorem dX3_copyFrom_27 : decode cX3_copyFrom 27 = .ok (.invokestatic 58, 3) := by decide +kernel
theorem dX3_copyFrom_30 : decode cX3_copyFrom 30 = .ok (.aload_n 1, 1) := by decide +kernel
theorem dX3_copyFrom_31 : decode cX3_copyFrom 31 = .ok (.getfield 18, 3) := by decide +kernel
theorem dX3_copyFrom_34 : decode cX3_copyFrom 34 = .ok (.iconst 0, 1) := by decide +kernel
theorem dX3_copyFrom_35 : decode cX3_copyFrom 35 = .ok (.aload_n 0, 1) := by decide +kernel
theorem dX3_copyFrom_36 : decode cX3_copyFrom 36 = .ok (.getfield 18, 3) := by decide +kernel
theorem dX3_copyFrom_39 : decode cX3_copyFrom 39 = .ok (.iconst 0, 1) := by decide +kernel
theorem dX3_copyFrom_40 : decode cX3_copyFrom 40 = .ok (.bipush 40, 2) := by decide +kernel
theorem dX3_copyFrom_42 : decode cX3_copyFrom 42 = .ok (.invokestatic 58, 3) := by decide +kernel
theorem dX3_copyFrom_45 : decode cX3_copyFrom 45 = .ok (.aload_n 1, 1) := by decide +kernel
theorem dX3_copyFrom_46 : decode cX3_copyFrom 46 = .ok (.getfield 21, 3) := by decide +kernel
theorem dX3_copyFrom_49 : decode cX3_copyFrom 49 = .ok (.iconst 0, 1) := by decide +kernel
theorem dX3_copyFrom_50 : decode cX3_copyFrom 50 = .ok (.aload_n 0, 1) := by decide +kernel
theorem dX3_copyFrom_51 : decode cX3_copyFrom 51 = .ok (.getfield 21, 3) := by decide +kernel
theorem dX3_copyFrom_54 : decode cX3_copyFrom 54 = .ok (.iconst 0, 1) := by decide +kernel
theorem dX3_copyFrom_55 : decode cX3_copyFrom 55 = .ok (.bipush 40, 2) := by decide +kernel
theorem dX3_copyFrom_57 : decode cX3_copyFrom 57 = .ok (.invokestatic 58, 3) := by decide +kernel
theorem dX3_copyFrom_60 : decode cX3_copyFrom 60 = .ok (.aload_n 1, 1) := by decide +kernel
theorem dX3_copyFrom_61 : decode cX3_copyFrom 61 = .ok (.getfield 24, 3) := by decide +kernel
theorem dX3_copyFrom_64 : decode cX3_copyFrom 64 = .ok (.iconst 0, 1) := by decide +kernel
theorem dX3_copyFrom_65 : decode cX3_copyFrom 65 = .ok (.aload_n 0, 1) := by decide +kernel
theorem dX3_copyFrom_66 : decode cX3_copyFrom 66 = .ok (.getfield 24, 3) := by decide +kernel
theorem dX3_copyFrom_69 : decode cX3_copyFrom 69 = .ok (.iconst 0, 1) := by decide +kernel
theorem dX3_copyFrom_70 : decode cX3_copyFrom 70 = .ok (.bipush 40, 2) := by decide +kernel
theorem dX3_copyFrom_72 : decode cX3_copyFrom 72 = .ok (.invokestatic 58, 3) := by decide +kernel
theorem dX3_copyFrom_75 : decode cX3_copyFrom 75 = .ok (.aload_n 0, 1) := by decide +kernel
theorem dX3_copyFrom_76 : decode cX3_copyFrom 76 = .ok (.aload_n 1, 1) := by decide +kernel
theorem dX3_copyFrom_77 : decode cX3_copyFrom 77 = .ok (.getfield 27, 3) := by decide +kernel
theorem dX3_copyFrom_80 : decode cX3_copyFrom 80 = .ok (.putfield 27, 3) := by decide +kernel
theorem dX3_copyFrom_83 : decode cX3_copyFrom 83 = .ok (.return_, 1) := by decide +kernel
theorem dX4_init_0 : decode cX4_init 0 = .ok (.aload_n 0, 1) := by decide +kernel
theorem dX4_init_1 : decode cX4_init 1 = .ok (.invokespecial 3, 3) := by decide +kernel
theorem dX4_init_4 : decode cX4_init 4 = .ok (.aload_n 0, 1) := by decide +kernel
theorem dX4_init_5 : decode cX4_init 5 = .ok (.new 9, 3) := by decide +kernel
theorem dX4_init_8 : decode cX4_init 8 = .ok (.dup, 1) := by decide +kernel
theorem dX4_init_9 : decode cX4_init 9 = .ok (.invokespecial 11, 3) := by decide +kernel
theorem dX4_init_12 : decode cX4_init 12 = .ok (.putfield 12, 3) := by decide +kernel
theorem dX4_init_15 : decode cX4_init 15 = .ok (.aload_n 0, 1) := by decide +kernel
theorem dX4_init_16 : decode cX4_init 16 = .ok (.iconst 5, 1) := by decide +kernel
theorem dX4_init_17 : decode cX4_init 17 = .ok (.newarray .int, 2) := by decide +kernel
theorem dX4_init_19 : decode cX4_init 19 = .ok (.putfield 18, 3) := by decide +kernel
theorem dX4_init_22 : decode cX4_init 22 = .ok (.aload_n 0, 1) := by decide +kernel
theorem dX4_init_23 : decode cX4_init 23 = .ok (.sipush 600, 3) := by decide +kernel
theorem dX4_init_26 : decode cX4_init 26 = .ok (.newarray .int, 2) := by decide +kernel
theorem dX4_init_28 : decode cX4_init 28 = .ok (.putfield 22, 3) := by decide +kernel
theorem dX4_init_31 : decode cX4_init 31 = .ok (.getstatic 25, 3) := by decide +kernel
theorem dX4_init_34 : decode cX4_init 34 = .ok (.iconst 0, 1) := by decide +kernel
theorem dX4_init_35 : decode cX4_init 35 = .ok (.aload_n 0, 1) := by decide +kernel
theorem dX4_init_36 : decode cX4_init 36 = .ok (.getfield 18, 3) := by decide +kernel
theorem dX4_init_39 : decode cX4_init 39 = .ok (.iconst 0, 1) := by decide +kernel
theorem dX4_init_40 : decode cX4_init 40 = .ok (.iconst 5, 1) := by decide +kernel
theorem dX4_init_41 : decode cX4_init 41 = .ok (.invokestatic 28, 3) := by decide +kernel
theorem dX4_init_44 : decode cX4_init 44 = .ok (.iconst 0, 1) := by decide +kernel
theorem dX4_init_45 : decode cX4_init 45 = .ok (.istore_n 1, 1) := by decide +kernel
theorem dX4_init_46 : decode cX4_init 46 = .ok (.iload_n 1, 1) := by decide +kernel
theorem dX4_init_47 : decode cX4_init 47 = .ok (.sipush 600, 3) := by decide +kernel
theorem dX4_init_50 : decode cX4_init 50 = .ok (.if_icmp .ge 16, 3) := by decide +kernel
theorem dX4_init_53 : decode cX4_init 53 = .ok (.aload_n 0, 1) := by decide +kernel
theorem dX4_init_54 : decode cX4_init 54 = .ok (.getfield 22, 3) := by decide +kernel
theorem dX4_init_57 : decode cX4_init 57 = .ok (.iload_n 1, 1) := by decide +kernel
theorem dX4_init_58 : decode cX4_init 58 = .ok (.iconst (-1), 1) := by decide +kernel
theorem dX4_init_59 : decode cX4_init 59 = .ok (.iastore, 1) := by decide +kernel
theorem dX4_init_60 : decode cX4_init 60 = .ok (.iinc 1 1, 3) := by decide +kernel
theorem dX4_init_63 : decode cX4_init 63 = .ok (.goto (-17), 3) := by decide +kernel
theorem dX4_init_66 : decode cX4_init 66 = .ok (.return_, 1) := by decide +kernel
theorem dX4_copyFrom_0 : decode cX4_copyFrom 0 = .ok (.aload_n 0, 1) := by decide +kernel
theorem dX4_copyFrom_1 : decode cX4_copyFrom 1 = .ok (.getfield 12, 3) := by decide +kernel
theorem dX4_copyFrom_4 : decode cX4_copyFrom 4 = .ok (.aload_n 1, 1) := by decide +kernel
theorem dX4_copyFrom_5 : decode cX4_copyFrom 5 = .ok (.getfield 12, 3) := by decide +kernel
theorem dX4_copyFrom_8 : decode cX4_copyFrom 8 = .ok (.invokevirtual 34, 3) := by decide +kernel
theorem dX4_copyFrom_11 : decode cX4_copyFrom 11 = .ok (.aload_n 1, 1) := by decide +kernel
theorem dX4_copyFrom_12 : decode cX4_copyFrom 12 = .ok (.getfield 18, 3) := by decide +kernel
theorem dX4_copyFrom_15 : decode cX4_copyFrom 15 = .ok (.iconst 0, 1) := by decide +kernel
theorem dX4_copyFrom_16 : decode cX4_copyFrom 16 = .ok (.aload_n 0, 1) := by decide +kernel
theorem dX4_copyFrom_17 : decode cX4_copyFrom 17 = .ok (.getfield 18, 3) := by decide +kernel
theorem dX4_copyFrom_20 : decode cX4_copyFrom 20 = .ok (.iconst 0, 1) := by decide +kernel
theorem dX4_copyFrom_21 : decode cX4_copyFrom 21 = .ok (.iconst 5, 1) := by decide +kernel
theorem dX4_copyFrom_22 : decode cX4_copyFrom 22 = .ok (.invokestatic 28, 3) := by decide +kernel
theorem dX4_copyFrom_25 : decode cX4_copyFrom 25 = .ok (.aload_n 1, 1) := by decide +kernel
theorem dX4_copyFrom_26 : decode cX4_copyFrom 26 = .ok (.getfield 22, 3) := by decide +kernel
theorem dX4_copyFrom_29 : decode cX4_copyFrom 29 = .ok (.iconst 0, 1) := by decide +kernel
theorem dX4_copyFrom_30 : decode cX4_copyFrom 30 = .ok (.aload_n 0, 1) := by decide +kernel
theorem dX4_copyFrom_31 : decode cX4_copyFrom 31 = .ok (.getfield 22, 3) := by decide +kernel
theorem dX4_copyFrom_34 : decode cX4_copyFrom 34 = .ok (.iconst 0, 1) := by decide +kernel
theorem dX4_copyFrom_35 : decode cX4_copyFrom 35 = .ok (.sipush 600, 3) := by decide +kernel
theorem dX4_copyFrom_38 : decode cX4_copyFrom 38 = .ok (.invokestatic 28, 3) := by decide +kernel
theorem dX4_copyFrom_41 : decode cX4_copyFrom 41 = .ok (.return_, 1) := by decide +kernel
theorem dX4_setting_0 : decode cX4_setting 0 = .ok (.iload_n 1, 1) := by decide +kernel
theorem dX4_setting_1 : decode cX4_setting 1 = .ok (.ifCond .lt 17, 3) := by decide +kernel
theorem dX4_setting_4 : decode cX4_setting 4 = .ok (.iload_n 1, 1) := by decide +kernel
theorem dX4_setting_5 : decode cX4_setting 5 = .ok (.iconst 5, 1) := by decide +kernel
theorem dX4_setting_6 : decode cX4_setting 6 = .ok (.if_icmp .ge 12, 3) := by decide +kernel
theorem dX4_setting_9 : decode cX4_setting 9 = .ok (.aload_n 0, 1) := by decide +kernel
theorem dX4_setting_10 : decode cX4_setting 10 = .ok (.getfield 18, 3) := by decide +kernel
theorem dX4_setting_13 : decode cX4_setting 13 = .ok (.iload_n 1, 1) := by decide +kernel
theorem dX4_setting_14 : decode cX4_setting 14 = .ok (.iaload, 1) := by decide +kernel
theorem dX4_setting_15 : decode cX4_setting 15 = .ok (.goto 4, 3) := by decide +kernel
theorem dX4_setting_18 : decode cX4_setting 18 = .ok (.iconst 0, 1) := by decide +kernel
theorem dX4_setting_19 : decode cX4_setting 19 = .ok (.ireturn, 1) := by decide +kernel
theorem dX4_change_0 : decode cX4_change 0 = .ok (.iload_n 1, 1) := by decide +kernel
theorem dX4_change_1 : decode cX4_change 1 = .ok (.ifCond .lt 15, 3) := by decide +kernel
theorem dX4_change_4 : decode cX4_change 4 = .ok (.iload_n 1, 1) := by decide +kernel
theorem dX4_change_5 : decode cX4_change 5 = .ok (.iconst 5, 1) := by decide +kernel
theorem dX4_change_6 : decode cX4_change 6 = .ok (.if_icmp .ge 10, 3) := by decide +kernel
theorem dX4_change_9 : decode cX4_change 9 = .ok (.aload_n 0, 1) := by decide +kernel
theorem dX4_change_10 : decode cX4_change 10 = .ok (.getfield 18, 3) := by decide +kernel
theorem dX4_change_13 : decode cX4_change 13 = .ok (.iload_n 1, 1) := by decide +kernel
theorem dX4_change_14 : decode cX4_change 14 = .ok (.iload_n 2, 1) := by decide +kernel
theorem dX4_change_15 : decode cX4_change 15 = .ok (.iastore, 1) := by decide +kernel
theorem dX4_change_16 : decode cX4_change 16 = .ok (.return_, 1) := by decide +kernel
theorem dX4_sungAt_0 : decode cX4_sungAt 0 = .ok (.iload_n 1, 1) := by decide +kernel
theorem dX4_sungAt_1 : decode cX4_sungAt 1 = .ok (.ifCond .lt 19, 3) := by decide +kernel
theorem dX4_sungAt_4 : decode cX4_sungAt 4 = .ok (.iload_n 1, 1) := by decide +kernel
theorem dX4_sungAt_5 : decode cX4_sungAt 5 = .ok (.sipush 600, 3) := by decide +kernel
theorem dX4_sungAt_8 : decode cX4_sungAt 8 = .ok (.if_icmp .ge 12, 3) := by decide +kernel
theorem dX4_sungAt_11 : decode cX4_sungAt 11 = .ok (.aload_n 0, 1) := by decide +kernel
theorem dX4_sungAt_12 : decode cX4_sungAt 12 = .ok (.getfield 22, 3) := by decide +kernel
theorem dX4_sungAt_15 : decode cX4_sungAt 15 = .ok (.iload_n 1, 1) := by decide +kernel
theorem dX4_sungAt_16 : decode cX4_sungAt 16 = .ok (.iaload, 1) := by decide +kernel
theorem dX4_sungAt_17 : decode cX4_sungAt 17 = .ok (.goto 4, 3) := by decide +kernel
theorem dX4_sungAt_20 : decode cX4_sungAt 20 = .ok (.iconst (-1), 1) := by decide +kernel
theorem dX4_sungAt_21 : decode cX4_sungAt 21 = .ok (.ireturn, 1) := by decide +kernel
theorem dX4_voiceAt_0 : decode cX4_voiceAt 0 = .ok (.iload_n 1, 1) := by decide +kernel
theorem dX4_voiceAt_1 : decode cX4_voiceAt 1 = .ok (.ifCond .lt 31, 3) := by decide +kernel
theorem dX4_voiceAt_4 : decode cX4_voiceAt 4 = .ok (.iload_n 1, 1) := by decide +kernel
theorem dX4_voiceAt_5 : decode cX4_voiceAt 5 = .ok (.sipush 600, 3) := by decide +kernel
theorem dX4_voiceAt_8 : decode cX4_voiceAt 8 = .ok (.if_icmp .ge 24, 3) := by decide +kernel
theorem dX4_voiceAt_11 : decode cX4_voiceAt 11 = .ok (.aload_n 0, 1) := by decide +kernel
theorem dX4_voiceAt_12 : decode cX4_voiceAt 12 = .ok (.getfield 22, 3) := by decide +kernel
theorem dX4_voiceAt_15 : decode cX4_voiceAt 15 = .ok (.iload_n 1, 1) := by decide +kernel
theorem dX4_voiceAt_16 : decode cX4_voiceAt 16 = .ok (.iload_n 2, 1) := by decide +kernel
theorem dX4_voiceAt_17 : decode cX4_voiceAt 17 = .ok (.iconst 0, 1) := by decide +kernel
theorem dX4_voiceAt_18 : decode cX4_voiceAt 18 = .ok (.bipush 60, 2) := by decide +kernel
theorem dX4_voiceAt_20 : decode cX4_voiceAt 20 = .ok (.invokestatic 38, 3) := by decide +kernel
theorem dX4_voiceAt_23 : decode cX4_voiceAt 23 = .ok (.ifCond .eq 7, 3) := by decide +kernel
theorem dX4_voiceAt_26 : decode cX4_voiceAt 26 = .ok (.iload_n 2, 1) := by decide +kernel
theorem dX4_voiceAt_27 : decode cX4_voiceAt 27 = .ok (.goto 4, 3) := by decide +kernel
theorem dX4_voiceAt_30 : decode cX4_voiceAt 30 = .ok (.iconst (-1), 1) := by decide +kernel
theorem dX4_voiceAt_31 : decode cX4_voiceAt 31 = .ok (.iastore, 1) := by decide +kernel
theorem dX4_voiceAt_32 : decode cX4_voiceAt 32 = .ok (.return_, 1) := by decide +kernel
theorem dX4_voice_0 : decode cX4_voice 0 = .ok (.iconst 0, 1) := by decide +kernel
theorem dX4_voice_1 : decode cX4_voice 1 = .ok (.istore 4, 2) := by decide +kernel
theorem dX4_voice_3 : decode cX4_voice 3 = .ok (.iload 4, 2) := by decide +kernel
theorem dX4_voice_5 : decode cX4_voice 5 = .ok (.iload_n 2, 1) := by decide +kernel
theorem dX4_voice_6 : decode cX4_voice 6 = .ok (.if_icmp .ge 18, 3) := by decide +kernel
theorem dX4_voice_9 : decode cX4_voice 9 = .ok (.aload_n 0, 1) := by decide +kernel
theorem dX4_voice_10 : decode cX4_voice 10 = .ok (.iload_n 1, 1) := by decide +kernel
theorem dX4_voice_11 : decode cX4_voice 11 = .ok (.iload 4, 2) := by decide +kernel
theorem dX4_voice_13 : decode cX4_voice 13 = .ok (.iadd, 1) := by decide +kernel
theorem dX4_voice_14 : decode cX4_voice 14 = .ok (.iload_n 3, 1) := by decide +kernel
theorem dX4_voice_15 : decode cX4_voice 15 = .ok (.invokevirtual 42, 3) := by decide +kernel
theorem dX4_voice_18 : decode cX4_voice 18 = .ok (.iinc 4 1, 3) := by decide +kernel
theorem dX4_voice_21 : decode cX4_voice 21 = .ok (.goto (-18), 3) := by decide +kernel
theorem dX4_voice_24 : decode cX4_voice 24 = .ok (.return_, 1) := by decide +kernel
theorem dX4_voiceAsWanted_0 : decode cX4_voiceAsWanted 0 = .ok (.aload_n 0, 1) := by decide +kernel
theorem dX4_voiceAsWanted_1 : decode cX4_voiceAsWanted 1 = .ok (.getfield 12, 3) := by decide +kernel
theorem dX4_voiceAsWanted_4 : decode cX4_voiceAsWanted 4 = .ok (.iload_n 1, 1) := by decide +kernel
theorem dX4_voiceAsWanted_5 : decode cX4_voiceAsWanted 5 = .ok (.invokevirtual 46, 3) := by decide +kernel
theorem dX4_voiceAsWanted_8 : decode cX4_voiceAsWanted 8 = .ok (.istore_n 3, 1) := by decide +kernel
theorem dX4_voiceAsWanted_9 : decode cX4_voiceAsWanted 9 = .ok (.iconst 0, 1) := by decide +kernel
theorem dX4_voiceAsWanted_10 : decode cX4_voiceAsWanted 10 = .ok (.istore 4, 2) := by decide +kernel
theorem dX4_voiceAsWanted_12 : decode cX4_voiceAsWanted 12 = .ok (.iload 4, 2) := by decide +kernel
theorem dX4_voiceAsWanted_14 : decode cX4_voiceAsWanted 14 = .ok (.aload_n 0, 1) := by decide +kernel
theorem dX4_voiceAsWanted_15 : decode cX4_voiceAsWanted 15 = .ok (.getfield 12, 3) := by decide +kernel
theorem dX4_voiceAsWanted_18 : decode cX4_voiceAsWanted 18 = .ok (.iload_n 1, 1) := by decide +kernel
theorem dX4_voiceAsWanted_19 : decode cX4_voiceAsWanted 19 = .ok (.invokevirtual 50, 3) := by decide +kernel
theorem dX4_voiceAsWanted_22 : decode cX4_voiceAsWanted 22 = .ok (.if_icmp .ge 29, 3) := by decide +kernel
theorem dX4_voiceAsWanted_25 : decode cX4_voiceAsWanted 25 = .ok (.aload_n 0, 1) := by decide +kernel
theorem dX4_voiceAsWanted_26 : decode cX4_voiceAsWanted 26 = .ok (.iload_n 3, 1) := by decide +kernel
theorem dX4_voiceAsWanted_27 : decode cX4_voiceAsWanted 27 = .ok (.iload 4, 2) := by decide +kernel
theorem dX4_voiceAsWanted_29 : decode cX4_voiceAsWanted 29 = .ok (.iadd, 1) := by decide +kernel
theorem dX4_voiceAsWanted_30 : decode cX4_voiceAsWanted 30 = .ok (.aload_n 0, 1) := by decide +kernel
theorem dX4_voiceAsWanted_31 : decode cX4_voiceAsWanted 31 = .ok (.getfield 12, 3) := by decide +kernel
theorem dX4_voiceAsWanted_34 : decode cX4_voiceAsWanted 34 = .ok (.iload_n 1, 1) := by decide +kernel
theorem dX4_voiceAsWanted_35 : decode cX4_voiceAsWanted 35 = .ok (.iload 4, 2) := by decide +kernel
theorem dX4_voiceAsWanted_37 : decode cX4_voiceAsWanted 37 = .ok (.invokevirtual 53, 3) := by decide +kernel
theorem dX4_voiceAsWanted_40 : decode cX4_voiceAsWanted 40 = .ok (.iload_n 2, 1) := by decide +kernel
theorem dX4_voiceAsWanted_41 : decode cX4_voiceAsWanted 41 = .ok (.iadd, 1) := by decide +kernel
theorem dX4_voiceAsWanted_42 : decode cX4_voiceAsWanted 42 = .ok (.invokevirtual 42, 3) := by decide +kernel
theorem dX4_voiceAsWanted_45 : decode cX4_voiceAsWanted 45 = .ok (.iinc 4 1, 3) := by decide +kernel
theorem dX4_voiceAsWanted_48 : decode cX4_voiceAsWanted 48 = .ok (.goto (-36), 3) := by decide +kernel
theorem dX4_voiceAsWanted_51 : decode cX4_voiceAsWanted 51 = .ok (.return_, 1) := by decide +kernel
theorem dX4_voiceShifted_0 : decode cX4_voiceShifted 0 = .ok (.iconst 0, 1) := by decide +kernel
theorem dX4_voiceShifted_1 : decode cX4_voiceShifted 1 = .ok (.istore 4, 2) := by decide +kernel
theorem dX4_voiceShifted_3 : decode cX4_voiceShifted 3 = .ok (.iload 4, 2) := by decide +kernel
theorem dX4_voiceShifted_5 : decode cX4_voiceShifted 5 = .ok (.sipush 600, 3) := by decide +kernel
theorem dX4_voiceShifted_8 : decode cX4_voiceShifted 8 = .ok (.if_icmp .ge 39, 3) := by decide +kernel
theorem dX4_voiceShifted_11 : decode cX4_voiceShifted 11 = .ok (.aload_n 1, 1) := by decide +kernel
theorem dX4_voiceShifted_12 : decode cX4_voiceShifted 12 = .ok (.iload 4, 2) := by decide +kernel
theorem dX4_voiceShifted_14 : decode cX4_voiceShifted 14 = .ok (.iload_n 2, 1) := by decide +kernel
theorem dX4_voiceShifted_15 : decode cX4_voiceShifted 15 = .ok (.isub, 1) := by decide +kernel
theorem dX4_voiceShifted_16 : decode cX4_voiceShifted 16 = .ok (.invokevirtual 57, 3) := by decide +kernel
theorem dX4_voiceShifted_19 : decode cX4_voiceShifted 19 = .ok (.istore 5, 2) := by decide +kernel
theorem dX4_voiceShifted_21 : decode cX4_voiceShifted 21 = .ok (.aload_n 0, 1) := by decide +kernel
theorem dX4_voiceShifted_22 : decode cX4_voiceShifted 22 = .ok (.iload 4, 2) := by decide +kernel
theorem dX4_voiceShifted_24 : decode cX4_voiceShifted 24 = .ok (.iload 5, 2) := by decide +kernel
theorem dX4_voiceShifted_26 : decode cX4_voiceShifted 26 = .ok (.iconst (-1), 1) := by decide +kernel
theorem dX4_voiceShifted_27 : decode cX4_voiceShifted 27 = .ok (.if_icmp .ne 7, 3) := by decide +kernel
theorem dX4_voiceShifted_30 : decode cX4_voiceShifted 30 = .ok (.iconst (-1), 1) := by decide +kernel
theorem dX4_voiceShifted_31 : decode cX4_voiceShifted 31 = .ok (.goto 7, 3) := by decide +kernel
theorem dX4_voiceShifted_34 : decode cX4_voiceShifted 34 = .ok (.iload 5, 2) := by decide +kernel
theorem dX4_voiceShifted_36 : decode cX4_voiceShifted 36 = .ok (.iload_n 3, 1) := by decide +kernel
theorem dX4_voiceShifted_37 : decode cX4_voiceShifted 37 = .ok (.iadd, 1) := by decide +kernel
theorem dX4_voiceShifted_38 : decode cX4_voiceShifted 38 = .ok (.invokevirtual 42, 3) := by decide +kernel
theorem dX4_voiceShifted_41 : decode cX4_voiceShifted 41 = .ok (.iinc 4 1, 3) := by decide +kernel
theorem dX4_voiceShifted_44 : decode cX4_voiceShifted 44 = .ok (.goto (-41), 3) := by decide +kernel
theorem dX4_voiceShifted_47 : decode cX4_voiceShifted 47 = .ok (.return_, 1) := by decide +kernel
theorem dX4_soundingTicks_0 : decode cX4_soundingTicks 0 = .ok (.iconst 0, 1) := by decide +kernel
theorem dX4_soundingTicks_1 : decode cX4_soundingTicks 1 = .ok (.istore_n 1, 1) := by decide +kernel
theorem dX4_soundingTicks_2 : decode cX4_soundingTicks 2 = .ok (.iconst 0, 1) := by decide +kernel
theorem dX4_soundingTicks_3 : decode cX4_soundingTicks 3 = .ok (.istore_n 2, 1) := by decide +kernel
theorem dX4_soundingTicks_4 : decode cX4_soundingTicks 4 = .ok (.iload_n 2, 1) := by decide +kernel
theorem dX4_soundingTicks_5 : decode cX4_soundingTicks 5 = .ok (.sipush 600, 3) := by decide +kernel
theorem dX4_soundingTicks_8 : decode cX4_soundingTicks 8 = .ok (.if_icmp .ge 21, 3) := by decide +kernel
theorem dX4_soundingTicks_11 : decode cX4_soundingTicks 11 = .ok (.aload_n 0, 1) := by decide +kernel
theorem dX4_soundingTicks_12 : decode cX4_soundingTicks 12 = .ok (.iload_n 2, 1) := by decide +kernel
theorem dX4_soundingTicks_13 : decode cX4_soundingTicks 13 = .ok (.invokevirtual 57, 3) := by decide +kernel
theorem dX4_soundingTicks_16 : decode cX4_soundingTicks 16 = .ok (.iconst (-1), 1) := by decide +kernel
theorem dX4_soundingTicks_17 : decode cX4_soundingTicks 17 = .ok (.if_icmp .eq 6, 3) := by decide +kernel
theorem dX4_soundingTicks_20 : decode cX4_soundingTicks 20 = .ok (.iinc 1 1, 3) := by decide +kernel
theorem dX4_soundingTicks_23 : decode cX4_soundingTicks 23 = .ok (.iinc 2 1, 3) := by decide +kernel
theorem dX4_soundingTicks_26 : decode cX4_soundingTicks 26 = .ok (.goto (-22), 3) := by decide +kernel
theorem dX4_soundingTicks_29 : decode cX4_soundingTicks 29 = .ok (.iload_n 1, 1) := by decide +kernel
theorem dX4_soundingTicks_30 : decode cX4_soundingTicks 30 = .ok (.ireturn, 1) := by decide +kernel
theorem dX4_isOnset_0 : decode cX4_isOnset 0 = .ok (.aload_n 0, 1) := by decide +kernel
theorem dX4_isOnset_1 : decode cX4_isOnset 1 = .ok (.iload_n 1, 1) := by decide +kernel
theorem dX4_isOnset_2 : decode cX4_isOnset 2 = .ok (.invokevirtual 57, 3) := by decide +kernel
theorem dX4_isOnset_5 : decode cX4_isOnset 5 = .ok (.iconst (-1), 1) := by decide +kernel
theorem dX4_isOnset_6 : decode cX4_isOnset 6 = .ok (.if_icmp .eq 22, 3) := by decide +kernel
theorem dX4_isOnset_9 : decode cX4_isOnset 9 = .ok (.aload_n 0, 1) := by decide +kernel
theorem dX4_isOnset_10 : decode cX4_isOnset 10 = .ok (.iload_n 1, 1) := by decide +kernel
theorem dX4_isOnset_11 : decode cX4_isOnset 11 = .ok (.invokevirtual 57, 3) := by decide +kernel
theorem dX4_isOnset_14 : decode cX4_isOnset 14 = .ok (.aload_n 0, 1) := by decide +kernel
theorem dX4_isOnset_15 : decode cX4_isOnset 15 = .ok (.iload_n 1, 1) := by decide +kernel
theorem dX4_isOnset_16 : decode cX4_isOnset 16 = .ok (.iconst 1, 1) := by decide +kernel
theorem dX4_isOnset_17 : decode cX4_isOnset 17 = .ok (.isub, 1) := by decide +kernel
theorem dX4_isOnset_18 : decode cX4_isOnset 18 = .ok (.invokevirtual 57, 3) := by decide +kernel
theorem dX4_isOnset_21 : decode cX4_isOnset 21 = .ok (.if_icmp .eq 7, 3) := by decide +kernel
theorem dX4_isOnset_24 : decode cX4_isOnset 24 = .ok (.iconst 1, 1) := by decide +kernel
theorem dX4_isOnset_25 : decode cX4_isOnset 25 = .ok (.goto 4, 3) := by decide +kernel
theorem dX4_isOnset_28 : decode cX4_isOnset 28 = .ok (.iconst 0, 1) := by decide +kernel
theorem dX4_isOnset_29 : decode cX4_isOnset 29 = .ok (.ireturn, 1) := by decide +kernel
theorem dX4_onsets_0 : decode cX4_onsets 0 = .ok (.iconst 0, 1) := by decide +kernel
theorem dX4_onsets_1 : decode cX4_onsets 1 = .ok (.istore_n 1, 1) := by decide +kernel
theorem dX4_onsets_2 : decode cX4_onsets 2 = .ok (.iconst 0, 1) := by decide +kernel
theorem dX4_onsets_3 : decode cX4_onsets 3 = .ok (.istore_n 2, 1) := by decide +kernel
theorem dX4_onsets_4 : decode cX4_onsets 4 = .ok (.iload_n 2, 1) := by decide +kernel
theorem dX4_onsets_5 : decode cX4_onsets 5 = .ok (.sipush 600, 3) := by decide +kernel
theorem dX4_onsets_8 : decode cX4_onsets 8 = .ok (.if_icmp .ge 20, 3) := by decide +kernel
theorem dX4_onsets_11 : decode cX4_onsets 11 = .ok (.aload_n 0, 1) := by decide +kernel
theorem dX4_onsets_12 : decode cX4_onsets 12 = .ok (.iload_n 2, 1) := by decide +kernel
theorem dX4_onsets_13 : decode cX4_onsets 13 = .ok (.invokevirtual 60, 3) := by decide +kernel
theorem dX4_onsets_16 : decode cX4_onsets 16 = .ok (.ifCond .eq 6, 3) := by decide +kernel
theorem dX4_onsets_19 : decode cX4_onsets 19 = .ok (.iinc 1 1, 3) := by decide +kernel
theorem dX4_onsets_22 : decode cX4_onsets 22 = .ok (.iinc 2 1, 3) := by decide +kernel
theorem dX4_onsets_25 : decode cX4_onsets 25 = .ok (.goto (-21), 3) := by decide +kernel
theorem dX4_onsets_28 : decode cX4_onsets 28 = .ok (.iload_n 1, 1) := by decide +kernel
theorem dX4_onsets_29 : decode cX4_onsets 29 = .ok (.ireturn, 1) := by decide +kernel
theorem dX4_onsetNear_0 : decode cX4_onsetNear 0 = .ok (.aload_n 0, 1) := by decide +kernel
theorem dX4_onsetNear_1 : decode cX4_onsetNear 1 = .ok (.iconst 2, 1) := by decide +kernel
theorem dX4_onsetNear_2 : decode cX4_onsetNear 2 = .ok (.invokevirtual 64, 3) := by decide +kernel
theorem dX4_onsetNear_5 : decode cX4_onsetNear 5 = .ok (.istore_n 2, 1) := by decide +kernel
theorem dX4_onsetNear_6 : decode cX4_onsetNear 6 = .ok (.iconst 0, 1) := by decide +kernel
theorem dX4_onsetNear_7 : decode cX4_onsetNear 7 = .ok (.istore_n 3, 1) := by decide +kernel
theorem dX4_onsetNear_8 : decode cX4_onsetNear 8 = .ok (.iload_n 3, 1) := by decide +kernel
theorem dX4_onsetNear_9 : decode cX4_onsetNear 9 = .ok (.iload_n 2, 1) := by decide +kernel
theorem dX4_onsetNear_10 : decode cX4_onsetNear 10 = .ok (.if_icmp .gt 37, 3) := by decide +kernel
theorem dX4_onsetNear_13 : decode cX4_onsetNear 13 = .ok (.aload_n 0, 1) := by decide +kernel
theorem dX4_onsetNear_14 : decode cX4_onsetNear 14 = .ok (.iload_n 1, 1) := by decide +kernel
theorem dX4_onsetNear_15 : decode cX4_onsetNear 15 = .ok (.iload_n 3, 1) := by decide +kernel
theorem dX4_onsetNear_16 : decode cX4_onsetNear 16 = .ok (.isub, 1) := by decide +kernel
theorem dX4_onsetNear_17 : decode cX4_onsetNear 17 = .ok (.invokevirtual 60, 3) := by decide +kernel
theorem dX4_onsetNear_20 : decode cX4_onsetNear 20 = .ok (.ifCond .eq 7, 3) := by decide +kernel
theorem dX4_onsetNear_23 : decode cX4_onsetNear 23 = .ok (.iload_n 1, 1) := by decide +kernel
theorem dX4_onsetNear_24 : decode cX4_onsetNear 24 = .ok (.iload_n 3, 1) := by decide +kernel
theorem dX4_onsetNear_25 : decode cX4_onsetNear 25 = .ok (.isub, 1) := by decide +kernel
theorem dX4_onsetNear_26 : decode cX4_onsetNear 26 = .ok (.ireturn, 1) := by decide +kernel
theorem dX4_onsetNear_27 : decode cX4_onsetNear 27 = .ok (.aload_n 0, 1) := by decide +kernel
theorem dX4_onsetNear_28 : decode cX4_onsetNear 28 = .ok (.iload_n 1, 1) := by decide +kernel
theorem dX4_onsetNear_29 : decode cX4_onsetNear 29 = .ok (.iload_n 3, 1) := by decide +kernel
theorem dX4_onsetNear_30 : decode cX4_onsetNear 30 = .ok (.iadd, 1) := by decide +kernel
theorem dX4_onsetNear_31 : decode cX4_onsetNear 31 = .ok (.invokevirtual 60, 3) := by decide +kernel
theorem dX4_onsetNear_34 : decode cX4_onsetNear 34 = .ok (.ifCond .eq 7, 3) := by decide +kernel
theorem dX4_onsetNear_37 : decode cX4_onsetNear 37 = .ok (.iload_n 1, 1) := by decide +kernel
theorem dX4_onsetNear_38 : decode cX4_onsetNear 38 = .ok (.iload_n 3, 1) := by decide +kernel
theorem dX4_onsetNear_39 : decode cX4_onsetNear 39 = .ok (.iadd, 1) := by decide +kernel
theorem dX4_onsetNear_40 : decode cX4_onsetNear 40 = .ok (.ireturn, 1) := by decide +kernel
theorem dX4_onsetNear_41 : decode cX4_onsetNear 41 = .ok (.iinc 3 1, 3) := by decide +kernel
theorem dX4_onsetNear_44 : decode cX4_onsetNear 44 = .ok (.goto (-36), 3) := by decide +kernel
theorem dX4_onsetNear_47 : decode cX4_onsetNear 47 = .ok (.bipush (-5), 2) := by decide +kernel
theorem dX4_onsetNear_49 : decode cX4_onsetNear 49 = .ok (.ireturn, 1) := by decide +kernel
theorem dX4_isMatch_0 : decode cX4_isMatch 0 = .ok (.iload_n 1, 1) := by decide +kernel
theorem dX4_isMatch_1 : decode cX4_isMatch 1 = .ok (.iconst (-1), 1) := by decide +kernel
theorem dX4_isMatch_2 : decode cX4_isMatch 2 = .ok (.if_icmp .ne 5, 3) := by decide +kernel
theorem dX4_isMatch_5 : decode cX4_isMatch 5 = .ok (.iconst 0, 1) := by decide +kernel
theorem dX4_isMatch_6 : decode cX4_isMatch 6 = .ok (.ireturn, 1) := by decide +kernel
theorem dX4_isMatch_7 : decode cX4_isMatch 7 = .ok (.iload_n 1, 1) := by decide +kernel
theorem dX4_isMatch_8 : decode cX4_isMatch 8 = .ok (.iload_n 2, 1) := by decide +kernel
theorem dX4_isMatch_9 : decode cX4_isMatch 9 = .ok (.isub, 1) := by decide +kernel
theorem dX4_isMatch_10 : decode cX4_isMatch 10 = .ok (.invokestatic 67, 3) := by decide +kernel
theorem dX4_isMatch_13 : decode cX4_isMatch 13 = .ok (.istore_n 3, 1) := by decide +kernel
theorem dX4_isMatch_14 : decode cX4_isMatch 14 = .ok (.aload_n 0, 1) := by decide +kernel
theorem dX4_isMatch_15 : decode cX4_isMatch 15 = .ok (.iconst 3, 1) := by decide +kernel
theorem dX4_isMatch_16 : decode cX4_isMatch 16 = .ok (.invokevirtual 64, 3) := by decide +kernel
theorem dX4_isMatch_19 : decode cX4_isMatch 19 = .ok (.iconst 1, 1) := by decide +kernel
theorem dX4_isMatch_20 : decode cX4_isMatch 20 = .ok (.if_icmp .ne 20, 3) := by decide +kernel
theorem dX4_isMatch_23 : decode cX4_isMatch 23 = .ok (.iload_n 3, 1) := by decide +kernel
theorem dX4_isMatch_24 : decode cX4_isMatch 24 = .ok (.bipush 12, 2) := by decide +kernel
theorem dX4_isMatch_26 : decode cX4_isMatch 26 = .ok (.irem, 1) := by decide +kernel
theorem dX4_isMatch_27 : decode cX4_isMatch 27 = .ok (.istore 4, 2) := by decide +kernel
theorem dX4_isMatch_29 : decode cX4_isMatch 29 = .ok (.iload 4, 2) := by decide +kernel
theorem dX4_isMatch_31 : decode cX4_isMatch 31 = .ok (.bipush 12, 2) := by decide +kernel
theorem dX4_isMatch_33 : decode cX4_isMatch 33 = .ok (.iload 4, 2) := by decide +kernel
theorem dX4_isMatch_35 : decode cX4_isMatch 35 = .ok (.isub, 1) := by decide +kernel
theorem dX4_isMatch_36 : decode cX4_isMatch 36 = .ok (.invokestatic 72, 3) := by decide +kernel
theorem dX4_isMatch_39 : decode cX4_isMatch 39 = .ok (.istore_n 3, 1) := by decide +kernel
theorem dX4_isMatch_40 : decode cX4_isMatch 40 = .ok (.iload_n 3, 1) := by decide +kernel
theorem dX4_isMatch_41 : decode cX4_isMatch 41 = .ok (.aload_n 0, 1) := by decide +kernel
theorem dX4_isMatch_42 : decode cX4_isMatch 42 = .ok (.iconst 1, 1) := by decide +kernel
theorem dX4_isMatch_43 : decode cX4_isMatch 43 = .ok (.invokevirtual 64, 3) := by decide +kernel
theorem dX4_isMatch_46 : decode cX4_isMatch 46 = .ok (.if_icmp .gt 7, 3) := by decide +kernel
theorem dX4_isMatch_49 : decode cX4_isMatch 49 = .ok (.iconst 1, 1) := by decide +kernel
theorem dX4_isMatch_50 : decode cX4_isMatch 50 = .ok (.goto 4, 3) := by decide +kernel
theorem dX4_isMatch_53 : decode cX4_isMatch 53 = .ok (.iconst 0, 1) := by decide +kernel
theorem dX4_isMatch_54 : decode cX4_isMatch 54 = .ok (.ireturn, 1) := by decide +kernel
theorem dX5_init_0 : decode cX5_init 0 = .ok (.aload_n 0, 1) := by decide +kernel
theorem dX5_init_1 : decode cX5_init 1 = .ok (.invokespecial 3, 3) := by decide +kernel
theorem dX5_init_4 : decode cX5_init 4 = .ok (.aload_n 0, 1) := by decide +kernel
theorem dX5_init_5 : decode cX5_init 5 = .ok (.bipush 60, 2) := by decide +kernel
theorem dX5_init_7 : decode cX5_init 7 = .ok (.newarray .char, 2) := by decide +kernel
theorem dX5_init_9 : decode cX5_init 9 = .ok (.putfield 9, 3) := by decide +kernel
theorem dX5_init_12 : decode cX5_init 12 = .ok (.aload_n 0, 1) := by decide +kernel
theorem dX5_init_13 : decode cX5_init 13 = .ok (.iconst 0, 1) := by decide +kernel
theorem dX5_init_14 : decode cX5_init 14 = .ok (.putfield 15, 3) := by decide +kernel
theorem dX5_init_17 : decode cX5_init 17 = .ok (.return_, 1) := by decide +kernel
theorem dX5_size_0 : decode cX5_size 0 = .ok (.aload_n 0, 1) := by decide +kernel
theorem dX5_size_1 : decode cX5_size 1 = .ok (.getfield 15, 3) := by decide +kernel
theorem dX5_size_4 : decode cX5_size 4 = .ok (.ireturn, 1) := by decide +kernel
theorem dX6_init_0 : decode cX6_init 0 = .ok (.aload_n 0, 1) := by decide +kernel
theorem dX6_init_1 : decode cX6_init 1 = .ok (.invokespecial 1, 3) := by decide +kernel
theorem dX6_init_4 : decode cX6_init 4 = .ok (.aload_n 0, 1) := by decide +kernel
theorem dX6_init_5 : decode cX6_init 5 = .ok (.new 7, 3) := by decide +kernel
theorem dX6_init_8 : decode cX6_init 8 = .ok (.dup, 1) := by decide +kernel
theorem dX6_init_9 : decode cX6_init 9 = .ok (.invokespecial 9, 3) := by decide +kernel
theorem dX6_init_12 : decode cX6_init 12 = .ok (.putfield 10, 3) := by decide +kernel
theorem dX6_init_15 : decode cX6_init 15 = .ok (.aload_n 0, 1) := by decide +kernel
theorem dX6_init_16 : decode cX6_init 16 = .ok (.new 7, 3) := by decide +kernel
theorem dX6_init_19 : decode cX6_init 19 = .ok (.dup, 1) := by decide +kernel
theorem dX6_init_20 : decode cX6_init 20 = .ok (.invokespecial 9, 3) := by decide +kernel
theorem dX6_init_23 : decode cX6_init 23 = .ok (.putfield 16, 3) := by decide +kernel
theorem dX6_init_26 : decode cX6_init 26 = .ok (.aload_n 0, 1) := by decide +kernel
theorem dX6_init_27 : decode cX6_init 27 = .ok (.new 7, 3) := by decide +kernel
theorem dX6_init_30 : decode cX6_init 30 = .ok (.dup, 1) := by decide +kernel
theorem dX6_init_31 : decode cX6_init 31 = .ok (.invokespecial 9, 3) := by decide +kernel
theorem dX6_init_34 : decode cX6_init 34 = .ok (.putfield 19, 3) := by decide +kernel
theorem dX6_init_37 : decode cX6_init 37 = .ok (.aload_n 0, 1) := by decide +kernel
theorem dX6_init_38 : decode cX6_init 38 = .ok (.iconst 0, 1) := by decide +kernel
theorem dX6_init_39 : decode cX6_init 39 = .ok (.putfield 22, 3) := by decide +kernel
theorem dX6_init_42 : decode cX6_init 42 = .ok (.aload_n 0, 1) := by decide +kernel
theorem dX6_init_43 : decode cX6_init 43 = .ok (.new 26, 3) := by decide +kernel
theorem dX6_init_46 : decode cX6_init 46 = .ok (.dup, 1) := by decide +kernel
theorem dX6_init_47 : decode cX6_init 47 = .ok (.invokespecial 28, 3) := by decide +kernel
theorem dX6_init_50 : decode cX6_init 50 = .ok (.putfield 29, 3) := by decide +kernel
theorem dX6_init_53 : decode cX6_init 53 = .ok (.aload_n 0, 1) := by decide +kernel
theorem dX6_init_54 : decode cX6_init 54 = .ok (.new 33, 3) := by decide +kernel
theorem dX6_init_57 : decode cX6_init 57 = .ok (.dup, 1) := by decide +kernel
theorem dX6_init_58 : decode cX6_init 58 = .ok (.invokespecial 35, 3) := by decide +kernel
theorem dX6_init_61 : decode cX6_init 61 = .ok (.putfield 36, 3) := by decide +kernel
theorem dX6_init_64 : decode cX6_init 64 = .ok (.aload_n 0, 1) := by decide +kernel
theorem dX6_init_65 : decode cX6_init 65 = .ok (.new 40, 3) := by decide +kernel
theorem dX6_init_68 : decode cX6_init 68 = .ok (.dup, 1) := by decide +kernel
theorem dX6_init_69 : decode cX6_init 69 = .ok (.invokespecial 42, 3) := by decide +kernel
theorem dX6_init_72 : decode cX6_init 72 = .ok (.putfield 43, 3) := by decide +kernel
theorem dX6_init_75 : decode cX6_init 75 = .ok (.aload_n 0, 1) := by decide +kernel
theorem dX6_init_76 : decode cX6_init 76 = .ok (.new 47, 3) := by decide +kernel
theorem dX6_init_79 : decode cX6_init 79 = .ok (.dup, 1) := by decide +kernel
theorem dX6_init_80 : decode cX6_init 80 = .ok (.invokespecial 49, 3) := by decide +kernel
theorem dX6_init_83 : decode cX6_init 83 = .ok (.putfield 50, 3) := by decide +kernel
theorem dX6_init_86 : decode cX6_init 86 = .ok (.return_, 1) := by decide +kernel
theorem dX6_add_0 : decode cX6_add 0 = .ok (.iload_n 1, 1) := by decide +kernel
theorem dX6_add_1 : decode cX6_add 1 = .ok (.iconst 0, 1) := by decide +kernel
theorem dX6_add_2 : decode cX6_add 2 = .ok (.bipush 32, 2) := by decide +kernel
theorem dX6_add_4 : decode cX6_add 4 = .ok (.invokestatic 54, 3) := by decide +kernel
theorem dX6_add_7 : decode cX6_add 7 = .ok (.ifCond .eq 14, 3) := by decide +kernel
theorem dX6_add_10 : decode cX6_add 10 = .ok (.iload 4, 2) := by decide +kernel
theorem dX6_add_12 : decode cX6_add 12 = .ok (.iconst 1, 1) := by decide +kernel
theorem dX6_add_13 : decode cX6_add 13 = .ok (.bipush 32, 2) := by decide +kernel
theorem dX6_add_15 : decode cX6_add 15 = .ok (.invokestatic 54, 3) := by decide +kernel
theorem dX6_add_18 : decode cX6_add 18 = .ok (.ifCond .ne 6, 3) := by decide +kernel
theorem dX6_add_21 : decode cX6_add 21 = .ok (.bipush (-2), 2) := by decide +kernel
theorem dX6_add_23 : decode cX6_add 23 = .ok (.ireturn, 1) := by decide +kernel
theorem dX6_add_24 : decode cX6_add 24 = .ok (.iload_n 2, 1) := by decide +kernel
theorem dX6_add_25 : decode cX6_add 25 = .ok (.iconst 0, 1) := by decide +kernel
theorem dX6_add_26 : decode cX6_add 26 = .ok (.bipush 60, 2) := by decide +kernel
theorem dX6_add_28 : decode cX6_add 28 = .ok (.invokestatic 54, 3) := by decide +kernel
theorem dX6_add_31 : decode cX6_add 31 = .ok (.ifCond .eq 13, 3) := by decide +kernel
theorem dX6_add_34 : decode cX6_add 34 = .ok (.iload_n 3, 1) := by decide +kernel
theorem dX6_add_35 : decode cX6_add 35 = .ok (.iconst 0, 1) := by decide +kernel
theorem dX6_add_36 : decode cX6_add 36 = .ok (.bipush 60, 2) := by decide +kernel
theorem dX6_add_38 : decode cX6_add 38 = .ok (.invokestatic 54, 3) := by decide +kernel
theorem dX6_add_41 : decode cX6_add 41 = .ok (.ifCond .ne 6, 3) := by decide +kernel
theorem dX6_add_44 : decode cX6_add 44 = .ok (.bipush (-2), 2) := by decide +kernel
theorem dX6_add_46 : decode cX6_add 46 = .ok (.ireturn, 1) := by decide +kernel
theorem dX6_add_47 : decode cX6_add 47 = .ok (.aload_n 0, 1) := by decide +kernel
theorem dX6_add_48 : decode cX6_add 48 = .ok (.getfield 10, 3) := by decide +kernel
theorem dX6_add_51 : decode cX6_add 51 = .ok (.getfield 58, 3) := by decide +kernel
theorem dX6_add_54 : decode cX6_add 54 = .ok (.iload_n 1, 1) := by decide +kernel
theorem dX6_add_55 : decode cX6_add 55 = .ok (.iload 4, 2) := by decide +kernel
theorem dX6_add_57 : decode cX6_add 57 = .ok (.invokevirtual 62, 3) := by decide +kernel
theorem dX6_add_60 : decode cX6_add 60 = .ok (.ifCond .ne 6, 3) := by decide +kernel
theorem dX6_add_63 : decode cX6_add 63 = .ok (.bipush (-3), 2) := by decide +kernel
theorem dX6_add_65 : decode cX6_add 65 = .ok (.ireturn, 1) := by decide +kernel
theorem dX6_add_66 : decode cX6_add 66 = .ok (.aload_n 0, 1) := by decide +kernel
theorem dX6_add_67 : decode cX6_add 67 = .ok (.getfield 29, 3) := by decide +kernel
theorem dX6_add_70 : decode cX6_add 70 = .ok (.aload_n 0, 1) := by decide +kernel
theorem dX6_add_71 : decode cX6_add 71 = .ok (.getfield 10, 3) := by decide +kernel
theorem dX6_add_74 : decode cX6_add 74 = .ok (.invokevirtual 68, 3) := by decide +kernel
theorem dX6_add_77 : decode cX6_add 77 = .ok (.aload_n 0, 1) := by decide +kernel
theorem dX6_add_78 : decode cX6_add 78 = .ok (.getfield 10, 3) := by decide +kernel
theorem dX6_add_81 : decode cX6_add 81 = .ok (.getfield 58, 3) := by decide +kernel
theorem dX6_add_84 : decode cX6_add 84 = .ok (.iload_n 1, 1) := by decide +kernel
theorem dX6_add_85 : decode cX6_add 85 = .ok (.iload_n 2, 1) := by decide +kernel
theorem dX6_add_86 : decode cX6_add 86 = .ok (.iload_n 3, 1) := by decide +kernel
theorem dX6_add_87 : decode cX6_add 87 = .ok (.iload 4, 2) := by decide +kernel
theorem dX6_add_89 : decode cX6_add 89 = .ok (.iload 5, 2) := by decide +kernel
theorem dX6_add_91 : decode cX6_add 91 = .ok (.invokevirtual 72, 3) := by decide +kernel
theorem dX6_add_94 : decode cX6_add 94 = .ok (.ireturn, 1) := by decide +kernel
theorem dX6_drop_0 : decode cX6_drop 0 = .ok (.aload_n 0, 1) := by decide +kernel
theorem dX6_drop_1 : decode cX6_drop 1 = .ok (.getfield 10, 3) := by decide +kernel
theorem dX6_drop_4 : decode cX6_drop 4 = .ok (.getfield 58, 3) := by decide +kernel
theorem dX6_drop_7 : decode cX6_drop 7 = .ok (.invokevirtual 76, 3) := by decide +kernel
theorem dX6_drop_10 : decode cX6_drop 10 = .ok (.ifCond .ne 6, 3) := by decide +kernel
theorem dX6_drop_13 : decode cX6_drop 13 = .ok (.bipush (-5), 2) := by decide +kernel
theorem dX6_drop_15 : decode cX6_drop 15 = .ok (.ireturn, 1) := by decide +kernel
theorem dX6_drop_16 : decode cX6_drop 16 = .ok (.aload_n 0, 1) := by decide +kernel
theorem dX6_drop_17 : decode cX6_drop 17 = .ok (.getfield 29, 3) := by decide +kernel
theorem dX6_drop_20 : decode cX6_drop 20 = .ok (.aload_n 0, 1) := by decide +kernel
theorem dX6_drop_21 : decode cX6_drop 21 = .ok (.getfield 10, 3) := by decide +kernel
theorem dX6_drop_24 : decode cX6_drop 24 = .ok (.invokevirtual 68, 3) := by decide +kernel
theorem dX6_drop_27 : decode cX6_drop 27 = .ok (.aload_n 0, 1) := by decide +kernel
theorem dX6_drop_28 : decode cX6_drop 28 = .ok (.getfield 10, 3) := by decide +kernel
theorem dX6_drop_31 : decode cX6_drop 31 = .ok (.getfield 58, 3) := by decide +kernel
theorem dX6_drop_34 : decode cX6_drop 34 = .ok (.invokevirtual 80, 3) := by decide +kernel
theorem dX6_drop_37 : decode cX6_drop 37 = .ok (.ireturn, 1) := by decide +kernel
theorem dX6_set_0 : decode cX6_set 0 = .ok (.iload_n 1, 1) := by decide +kernel
theorem dX6_set_1 : decode cX6_set 1 = .ok (.invokestatic 101, 3) := by decide +kernel
theorem dX6_set_4 : decode cX6_set 4 = .ok (.ifCond .ne 5, 3) := by decide +kernel
theorem dX6_set_7 : decode cX6_set 7 = .ok (.iconst (-1), 1) := by decide +kernel
theorem dX6_set_8 : decode cX6_set 8 = .ok (.ireturn, 1) := by decide +kernel
theorem dX6_set_9 : decode cX6_set 9 = .ok (.iload_n 1, 1) := by decide +kernel
theorem dX6_set_10 : decode cX6_set 10 = .ok (.iload_n 2, 1) := by decide +kernel
theorem dX6_set_11 : decode cX6_set 11 = .ok (.invokestatic 105, 3) := by decide +kernel
theorem dX6_set_14 : decode cX6_set 14 = .ok (.ifCond .ne 6, 3) := by decide +kernel
theorem dX6_set_17 : decode cX6_set 17 = .ok (.bipush (-2), 2) := by decide +kernel
theorem dX6_set_19 : decode cX6_set 19 = .ok (.ireturn, 1) := by decide +kernel
theorem dX6_set_20 : decode cX6_set 20 = .ok (.aload_n 0, 1) := by decide +kernel
theorem dX6_set_21 : decode cX6_set 21 = .ok (.getfield 10, 3) := by decide +kernel
theorem dX6_set_24 : decode cX6_set 24 = .ok (.iload_n 1, 1) := by decide +kernel
theorem dX6_set_25 : decode cX6_set 25 = .ok (.invokevirtual 108, 3) := by decide +kernel
theorem dX6_set_28 : decode cX6_set 28 = .ok (.istore_n 3, 1) := by decide +kernel
theorem dX6_set_29 : decode cX6_set 29 = .ok (.iload_n 3, 1) := by decide +kernel
theorem dX6_set_30 : decode cX6_set 30 = .ok (.iload_n 2, 1) := by decide +kernel
theorem dX6_set_31 : decode cX6_set 31 = .ok (.if_icmp .ne 6, 3) := by decide +kernel
theorem dX6_set_34 : decode cX6_set 34 = .ok (.bipush (-5), 2) := by decide +kernel
theorem dX6_set_36 : decode cX6_set 36 = .ok (.ireturn, 1) := by decide +kernel
theorem dX6_set_37 : decode cX6_set 37 = .ok (.aload_n 0, 1) := by decide +kernel
theorem dX6_set_38 : decode cX6_set 38 = .ok (.getfield 29, 3) := by decide +kernel
theorem dX6_set_41 : decode cX6_set 41 = .ok (.aload_n 0, 1) := by decide +kernel
theorem dX6_set_42 : decode cX6_set 42 = .ok (.getfield 10, 3) := by decide +kernel
theorem dX6_set_45 : decode cX6_set 45 = .ok (.invokevirtual 68, 3) := by decide +kernel
theorem dX6_set_48 : decode cX6_set 48 = .ok (.aload_n 0, 1) := by decide +kernel
theorem dX6_set_49 : decode cX6_set 49 = .ok (.getfield 10, 3) := by decide +kernel
theorem dX6_set_52 : decode cX6_set 52 = .ok (.iload_n 1, 1) := by decide +kernel
theorem dX6_set_53 : decode cX6_set 53 = .ok (.iload_n 2, 1) := by decide +kernel
theorem dX6_set_54 : decode cX6_set 54 = .ok (.invokevirtual 112, 3) := by decide +kernel
theorem dX6_set_57 : decode cX6_set 57 = .ok (.iload_n 3, 1) := by decide +kernel
theorem dX6_set_58 : decode cX6_set 58 = .ok (.ireturn, 1) := by decide +kernel
theorem dX6_sing_0 : decode cX6_sing 0 = .ok (.iload_n 1, 1) := by decide +kernel
theorem dX6_sing_1 : decode cX6_sing 1 = .ok (.iload_n 2, 1) := by decide +kernel
theorem dX6_sing_2 : decode cX6_sing 2 = .ok (.bipush 64, 2) := by decide +kernel
theorem dX6_sing_4 : decode cX6_sing 4 = .ok (.invokestatic 116, 3) := by decide +kernel
theorem dX6_sing_7 : decode cX6_sing 7 = .ok (.ifCond .eq 13, 3) := by decide +kernel
theorem dX6_sing_10 : decode cX6_sing 10 = .ok (.iload_n 3, 1) := by decide +kernel
theorem dX6_sing_11 : decode cX6_sing 11 = .ok (.iconst 0, 1) := by decide +kernel
theorem dX6_sing_12 : decode cX6_sing 12 = .ok (.bipush 60, 2) := by decide +kernel
theorem dX6_sing_14 : decode cX6_sing 14 = .ok (.invokestatic 54, 3) := by decide +kernel
theorem dX6_sing_17 : decode cX6_sing 17 = .ok (.ifCond .ne 6, 3) := by decide +kernel
theorem dX6_sing_20 : decode cX6_sing 20 = .ok (.bipush (-2), 2) := by decide +kernel
theorem dX6_sing_22 : decode cX6_sing 22 = .ok (.ireturn, 1) := by decide +kernel
theorem dX6_sing_23 : decode cX6_sing 23 = .ok (.aload_n 0, 1) := by decide +kernel
theorem dX6_sing_24 : decode cX6_sing 24 = .ok (.getfield 29, 3) := by decide +kernel
theorem dX6_sing_27 : decode cX6_sing 27 = .ok (.aload_n 0, 1) := by decide +kernel
theorem dX6_sing_28 : decode cX6_sing 28 = .ok (.getfield 10, 3) := by decide +kernel
theorem dX6_sing_31 : decode cX6_sing 31 = .ok (.invokevirtual 68, 3) := by decide +kernel
theorem dX6_sing_34 : decode cX6_sing 34 = .ok (.aload_n 0, 1) := by decide +kernel
theorem dX6_sing_35 : decode cX6_sing 35 = .ok (.getfield 10, 3) := by decide +kernel
theorem dX6_sing_38 : decode cX6_sing 38 = .ok (.iload_n 1, 1) := by decide +kernel
theorem dX6_sing_39 : decode cX6_sing 39 = .ok (.iload_n 2, 1) := by decide +kernel
theorem dX6_sing_40 : decode cX6_sing 40 = .ok (.iload_n 3, 1) := by decide +kernel
theorem dX6_sing_41 : decode cX6_sing 41 = .ok (.invokevirtual 119, 3) := by decide +kernel
theorem dX6_sing_44 : decode cX6_sing 44 = .ok (.aload_n 0, 1) := by decide +kernel
theorem dX6_sing_45 : decode cX6_sing 45 = .ok (.invokevirtual 123, 3) := by decide +kernel
theorem dX6_sing_48 : decode cX6_sing 48 = .ok (.ireturn, 1) := by decide +kernel
theorem dX6_silence_0 : decode cX6_silence 0 = .ok (.iload_n 1, 1) := by decide +kernel
theorem dX6_silence_1 : decode cX6_silence 1 = .ok (.iload_n 2, 1) := by decide +kernel
theorem dX6_silence_2 : decode cX6_silence 2 = .ok (.sipush 600, 3) := by decide +kernel
theorem dX6_silence_5 : decode cX6_silence 5 = .ok (.invokestatic 116, 3) := by decide +kernel
theorem dX6_silence_8 : decode cX6_silence 8 = .ok (.ifCond .ne 6, 3) := by decide +kernel
theorem dX6_silence_11 : decode cX6_silence 11 = .ok (.bipush (-2), 2) := by decide +kernel
theorem dX6_silence_13 : decode cX6_silence 13 = .ok (.ireturn, 1) := by decide +kernel
theorem dX6_silence_14 : decode cX6_silence 14 = .ok (.aload_n 0, 1) := by decide +kernel
theorem dX6_silence_15 : decode cX6_silence 15 = .ok (.getfield 29, 3) := by decide +kernel
theorem dX6_silence_18 : decode cX6_silence 18 = .ok (.aload_n 0, 1) := by decide +kernel
theorem dX6_silence_19 : decode cX6_silence 19 = .ok (.getfield 10, 3) := by decide +kernel
theorem dX6_silence_22 : decode cX6_silence 22 = .ok (.invokevirtual 68, 3) := by decide +kernel
theorem dX6_silence_25 : decode cX6_silence 25 = .ok (.aload_n 0, 1) := by decide +kernel
theorem dX6_silence_26 : decode cX6_silence 26 = .ok (.getfield 10, 3) := by decide +kernel
theorem dX6_silence_29 : decode cX6_silence 29 = .ok (.invokevirtual 126, 3) := by decide +kernel
theorem dX6_silence_32 : decode cX6_silence 32 = .ok (.istore_n 3, 1) := by decide +kernel
theorem dX6_silence_33 : decode cX6_silence 33 = .ok (.aload_n 0, 1) := by decide +kernel
theorem dX6_silence_34 : decode cX6_silence 34 = .ok (.getfield 10, 3) := by decide +kernel
theorem dX6_silence_37 : decode cX6_silence 37 = .ok (.iload_n 1, 1) := by decide +kernel
theorem dX6_silence_38 : decode cX6_silence 38 = .ok (.iload_n 2, 1) := by decide +kernel
theorem dX6_silence_39 : decode cX6_silence 39 = .ok (.iconst (-1), 1) := by decide +kernel
theorem dX6_silence_40 : decode cX6_silence 40 = .ok (.invokevirtual 119, 3) := by decide +kernel
theorem dX6_silence_43 : decode cX6_silence 43 = .ok (.iload_n 3, 1) := by decide +kernel
theorem dX6_silence_44 : decode cX6_silence 44 = .ok (.aload_n 0, 1) := by decide +kernel
theorem dX6_silence_45 : decode cX6_silence 45 = .ok (.getfield 10, 3) := by decide +kernel
theorem dX6_silence_48 : decode cX6_silence 48 = .ok (.invokevirtual 126, 3) := by decide +kernel
theorem dX6_silence_51 : decode cX6_silence 51 = .ok (.isub, 1) := by decide +kernel
theorem dX6_silence_52 : decode cX6_silence 52 = .ok (.ireturn, 1) := by decide +kernel
theorem dX6_singAlong_0 : decode cX6_singAlong 0 = .ok (.aload_n 0, 1) := by decide +kernel
theorem dX6_singAlong_1 : decode cX6_singAlong 1 = .ok (.getfield 10, 3) := by decide +kernel
theorem dX6_singAlong_4 : decode cX6_singAlong 4 = .ok (.getfield 58, 3) := by decide +kernel
theorem dX6_singAlong_7 : decode cX6_singAlong 7 = .ok (.iload_n 1, 1) := by decide +kernel
theorem dX6_singAlong_8 : decode cX6_singAlong 8 = .ok (.invokevirtual 129, 3) := by decide +kernel
theorem dX6_singAlong_11 : decode cX6_singAlong 11 = .ok (.ifCond .eq 17, 3) := by decide +kernel
theorem dX6_singAlong_14 : decode cX6_singAlong 14 = .ok (.aload_n 0, 1) := by decide +kernel
theorem dX6_singAlong_15 : decode cX6_singAlong 15 = .ok (.getfield 10, 3) := by decide +kernel
theorem dX6_singAlong_18 : decode cX6_singAlong 18 = .ok (.getfield 58, 3) := by decide +kernel
theorem dX6_singAlong_21 : decode cX6_singAlong 21 = .ok (.iload_n 2, 1) := by decide +kernel
theorem dX6_singAlong_22 : decode cX6_singAlong 22 = .ok (.invokevirtual 129, 3) := by decide +kernel
theorem dX6_singAlong_25 : decode cX6_singAlong 25 = .ok (.ifCond .ne 5, 3) := by decide +kernel
theorem dX6_singAlong_28 : decode cX6_singAlong 28 = .ok (.iconst (-1), 1) := by decide +kernel
theorem dX6_singAlong_29 : decode cX6_singAlong 29 = .ok (.ireturn, 1) := by decide +kernel
theorem dX6_singAlong_30 : decode cX6_singAlong 30 = .ok (.iload_n 2, 1) := by decide +kernel
theorem dX6_singAlong_31 : decode cX6_singAlong 31 = .ok (.iload_n 1, 1) := by decide +kernel
theorem dX6_singAlong_32 : decode cX6_singAlong 32 = .ok (.if_icmp .lt 14, 3) := by decide +kernel
theorem dX6_singAlong_35 : decode cX6_singAlong 35 = .ok (.iload_n 3, 1) := by decide +kernel
theorem dX6_singAlong_36 : decode cX6_singAlong 36 = .ok (.bipush (-60), 2) := by decide +kernel
theorem dX6_singAlong_38 : decode cX6_singAlong 38 = .ok (.bipush 60, 2) := by decide +kernel
theorem dX6_singAlong_40 : decode cX6_singAlong 40 = .ok (.invokestatic 54, 3) := by decide +kernel
theorem dX6_singAlong_43 : decode cX6_singAlong 43 = .ok (.ifCond .ne 6, 3) := by decide +kernel
theorem dX6_singAlong_46 : decode cX6_singAlong 46 = .ok (.bipush (-2), 2) := by decide +kernel
theorem dX6_singAlong_48 : decode cX6_singAlong 48 = .ok (.ireturn, 1) := by decide +kernel
theorem dX6_singAlong_49 : decode cX6_singAlong 49 = .ok (.aload_n 0, 1) := by decide +kernel
theorem dX6_singAlong_50 : decode cX6_singAlong 50 = .ok (.getfield 29, 3) := by decide +kernel
theorem dX6_singAlong_53 : decode cX6_singAlong 53 = .ok (.aload_n 0, 1) := by decide +kernel
theorem dX6_singAlong_54 : decode cX6_singAlong 54 = .ok (.getfield 10, 3) := by decide +kernel
theorem dX6_singAlong_57 : decode cX6_singAlong 57 = .ok (.invokevirtual 68, 3) := by decide +kernel
theorem dX6_singAlong_60 : decode cX6_singAlong 60 = .ok (.iload_n 1, 1) := by decide +kernel
theorem dX6_singAlong_61 : decode cX6_singAlong 61 = .ok (.istore 4, 2) := by decide +kernel
theorem dX6_singAlong_63 : decode cX6_singAlong 63 = .ok (.iload 4, 2) := by decide +kernel
theorem dX6_singAlong_65 : decode cX6_singAlong 65 = .ok (.iload_n 2, 1) := by decide +kernel
theorem dX6_singAlong_66 : decode cX6_singAlong 66 = .ok (.if_icmp .gt 19, 3) := by decide +kernel
theorem dX6_singAlong_69 : decode cX6_singAlong 69 = .ok (.aload_n 0, 1) := by decide +kernel
theorem dX6_singAlong_70 : decode cX6_singAlong 70 = .ok (.getfield 10, 3) := by decide +kernel
theorem dX6_singAlong_73 : decode cX6_singAlong 73 = .ok (.iload 4, 2) := by decide +kernel
theorem dX6_singAlong_75 : decode cX6_singAlong 75 = .ok (.iload_n 3, 1) := by decide +kernel
theorem dX6_singAlong_76 : decode cX6_singAlong 76 = .ok (.invokevirtual 132, 3) := by decide +kernel
theorem dX6_singAlong_79 : decode cX6_singAlong 79 = .ok (.iinc 4 1, 3) := by decide +kernel
theorem dX6_singAlong_82 : decode cX6_singAlong 82 = .ok (.goto (-19), 3) := by decide +kernel
theorem dX6_singAlong_85 : decode cX6_singAlong 85 = .ok (.aload_n 0, 1) := by decide +kernel
theorem dX6_singAlong_86 : decode cX6_singAlong 86 = .ok (.invokevirtual 123, 3) := by decide +kernel
theorem dX6_singAlong_89 : decode cX6_singAlong 89 = .ok (.ireturn, 1) := by decide +kernel
theorem dX6_undo_0 : decode cX6_undo 0 = .ok (.aload_n 0, 1) := by decide +kernel
theorem dX6_undo_1 : decode cX6_undo 1 = .ok (.getfield 29, 3) := by decide +kernel
theorem dX6_undo_4 : decode cX6_undo 4 = .ok (.invokevirtual 145, 3) := by decide +kernel
theorem dX6_undo_7 : decode cX6_undo 7 = .ok (.ifCond .ne 6, 3) := by decide +kernel
theorem dX6_undo_10 : decode cX6_undo 10 = .ok (.bipush (-5), 2) := by decide +kernel
theorem dX6_undo_12 : decode cX6_undo 12 = .ok (.ireturn, 1) := by decide +kernel
theorem dX6_undo_13 : decode cX6_undo 13 = .ok (.aload_n 0, 1) := by decide +kernel
theorem dX6_undo_14 : decode cX6_undo 14 = .ok (.getfield 29, 3) := by decide +kernel
theorem dX6_undo_17 : decode cX6_undo 17 = .ok (.aload_n 0, 1) := by decide +kernel
theorem dX6_undo_18 : decode cX6_undo 18 = .ok (.getfield 10, 3) := by decide +kernel
theorem dX6_undo_21 : decode cX6_undo 21 = .ok (.invokevirtual 146, 3) := by decide +kernel
theorem dX6_undo_24 : decode cX6_undo 24 = .ok (.ireturn, 1) := by decide +kernel
theorem dX6_syllable_0 : decode cX6_syllable 0 = .ok (.aload_n 0, 1) := by decide +kernel
theorem dX6_syllable_1 : decode cX6_syllable 1 = .ok (.getfield 10, 3) := by decide +kernel
theorem dX6_syllable_4 : decode cX6_syllable 4 = .ok (.getfield 58, 3) := by decide +kernel
theorem dX6_syllable_7 : decode cX6_syllable 7 = .ok (.iload_n 1, 1) := by decide +kernel
theorem dX6_syllable_8 : decode cX6_syllable 8 = .ok (.invokevirtual 129, 3) := by decide +kernel
theorem dX6_syllable_11 : decode cX6_syllable 11 = .ok (.ifCond .ne 5, 3) := by decide +kernel
theorem dX6_syllable_14 : decode cX6_syllable 14 = .ok (.iconst (-1), 1) := by decide +kernel
theorem dX6_syllable_15 : decode cX6_syllable 15 = .ok (.ireturn, 1) := by decide +kernel
theorem dX6_syllable_16 : decode cX6_syllable 16 = .ok (.iload_n 2, 1) := by decide +kernel
theorem dX6_syllable_17 : decode cX6_syllable 17 = .ok (.iconst 0, 1) := by decide +kernel
theorem dX6_syllable_18 : decode cX6_syllable 18 = .ok (.bipush 11, 2) := by decide +kernel
theorem dX6_syllable_20 : decode cX6_syllable 20 = .ok (.invokestatic 54, 3) := by decide +kernel
theorem dX6_syllable_23 : decode cX6_syllable 23 = .ok (.ifCond .ne 6, 3) := by decide +kernel
theorem dX6_syllable_26 : decode cX6_syllable 26 = .ok (.bipush (-2), 2) := by decide +kernel
theorem dX6_syllable_28 : decode cX6_syllable 28 = .ok (.ireturn, 1) := by decide +kernel
theorem dX6_syllable_29 : decode cX6_syllable 29 = .ok (.aload_n 0, 1) := by decide +kernel
theorem dX6_syllable_30 : decode cX6_syllable 30 = .ok (.getfield 50, 3) := by decide +kernel
theorem dX6_syllable_33 : decode cX6_syllable 33 = .ok (.aload_n 0, 1) := by decide +kernel
theorem dX6_syllable_34 : decode cX6_syllable 34 = .ok (.getfield 10, 3) := by decide +kernel
theorem dX6_syllable_37 : decode cX6_syllable 37 = .ok (.invokevirtual 152, 3) := by decide +kernel
theorem dX6_syllable_40 : decode cX6_syllable 40 = .ok (.iload_n 2, 1) := by decide +kernel
theorem dX6_syllable_41 : decode cX6_syllable 41 = .ok (.tableswitch 184 0 10 #[59, 71, 83, 95, 107, 119, 139, 148, 157, 166, 175], 59) := by decide +kernel
theorem dX6_syllable_100 : decode cX6_syllable 100 = .ok (.aload_n 0, 1) := by decide +kernel
theorem dX6_syllable_101 : decode cX6_syllable 101 = .ok (.getfield 10, 3) := by decide +kernel
theorem dX6_syllable_104 : decode cX6_syllable 104 = .ok (.getfield 58, 3) := by decide +kernel
theorem dX6_syllable_107 : decode cX6_syllable 107 = .ok (.iload_n 1, 1) := by decide +kernel
theorem dX6_syllable_108 : decode cX6_syllable 108 = .ok (.invokevirtual 154, 3) := by decide +kernel
theorem dX6_syllable_111 : decode cX6_syllable 111 = .ok (.ireturn, 1) := by decide +kernel
theorem dX6_syllable_112 : decode cX6_syllable 112 = .ok (.aload_n 0, 1) := by decide +kernel
theorem dX6_syllable_113 : decode cX6_syllable 113 = .ok (.getfield 10, 3) := by decide +kernel
theorem dX6_syllable_116 : decode cX6_syllable 116 = .ok (.getfield 58, 3) := by decide +kernel
theorem dX6_syllable_119 : decode cX6_syllable 119 = .ok (.iload_n 1, 1) := by decide +kernel
theorem dX6_syllable_120 : decode cX6_syllable 120 = .ok (.invokevirtual 157, 3) := by decide +kernel
theorem dX6_syllable_123 : decode cX6_syllable 123 = .ok (.ireturn, 1) := by decide +kernel
theorem dX6_syllable_124 : decode cX6_syllable 124 = .ok (.aload_n 0, 1) := by decide +kernel
theorem dX6_syllable_125 : decode cX6_syllable 125 = .ok (.getfield 10, 3) := by decide +kernel
theorem dX6_syllable_128 : decode cX6_syllable 128 = .ok (.getfield 58, 3) := by decide +kernel
theorem dX6_syllable_131 : decode cX6_syllable 131 = .ok (.iload_n 1, 1) := by decide +kernel
theorem dX6_syllable_132 : decode cX6_syllable 132 = .ok (.invokevirtual 160, 3) := by decide +kernel
theorem dX6_syllable_135 : decode cX6_syllable 135 = .ok (.ireturn, 1) := by decide +kernel
theorem dX6_syllable_136 : decode cX6_syllable 136 = .ok (.aload_n 0, 1) := by decide +kernel
theorem dX6_syllable_137 : decode cX6_syllable 137 = .ok (.getfield 10, 3) := by decide +kernel
theorem dX6_syllable_140 : decode cX6_syllable 140 = .ok (.getfield 58, 3) := by decide +kernel
theorem dX6_syllable_143 : decode cX6_syllable 143 = .ok (.iload_n 1, 1) := by decide +kernel
theorem dX6_syllable_144 : decode cX6_syllable 144 = .ok (.invokevirtual 163, 3) := by decide +kernel
theorem dX6_syllable_147 : decode cX6_syllable 147 = .ok (.ireturn, 1) := by decide +kernel
theorem dX6_syllable_148 : decode cX6_syllable 148 = .ok (.aload_n 0, 1) := by decide +kernel
theorem dX6_syllable_149 : decode cX6_syllable 149 = .ok (.getfield 10, 3) := by decide +kernel
theorem dX6_syllable_152 : decode cX6_syllable 152 = .ok (.getfield 58, 3) := by decide +kernel
theorem dX6_syllable_155 : decode cX6_syllable 155 = .ok (.iload_n 1, 1) := by decide +kernel
theorem dX6_syllable_156 : decode cX6_syllable 156 = .ok (.invokevirtual 166, 3) := by decide +kernel
theorem dX6_syllable_159 : decode cX6_syllable 159 = .ok (.ireturn, 1) := by decide +kernel
theorem dX6_syllable_160 : decode cX6_syllable 160 = .ok (.aload_n 0, 1) := by decide +kernel
theorem dX6_syllable_161 : decode cX6_syllable 161 = .ok (.getfield 10, 3) := by decide +kernel
theorem dX6_syllable_164 : decode cX6_syllable 164 = .ok (.getfield 58, 3) := by decide +kernel
theorem dX6_syllable_167 : decode cX6_syllable 167 = .ok (.iload_n 1, 1) := by decide +kernel
theorem dX6_syllable_168 : decode cX6_syllable 168 = .ok (.aload_n 0, 1) := by decide +kernel
theorem dX6_syllable_169 : decode cX6_syllable 169 = .ok (.getfield 10, 3) := by decide +kernel
theorem dX6_syllable_172 : decode cX6_syllable 172 = .ok (.iconst 0, 1) := by decide +kernel
theorem dX6_syllable_173 : decode cX6_syllable 173 = .ok (.invokevirtual 108, 3) := by decide +kernel
theorem dX6_syllable_176 : decode cX6_syllable 176 = .ok (.invokevirtual 169, 3) := by decide +kernel
theorem dX6_syllable_179 : decode cX6_syllable 179 = .ok (.ireturn, 1) := by decide +kernel
theorem dX6_syllable_180 : decode cX6_syllable 180 = .ok (.aload_n 0, 1) := by decide +kernel
theorem dX6_syllable_181 : decode cX6_syllable 181 = .ok (.getfield 50, 3) := by decide +kernel
theorem dX6_syllable_184 : decode cX6_syllable 184 = .ok (.iload_n 1, 1) := by decide +kernel
theorem dX6_syllable_185 : decode cX6_syllable 185 = .ok (.invokevirtual 173, 3) := by decide +kernel
theorem dX6_syllable_188 : decode cX6_syllable 188 = .ok (.ireturn, 1) := by decide +kernel
theorem dX6_syllable_189 : decode cX6_syllable 189 = .ok (.aload_n 0, 1) := by decide +kernel
theorem dX6_syllable_190 : decode cX6_syllable 190 = .ok (.getfield 50, 3) := by decide +kernel
theorem dX6_syllable_193 : decode cX6_syllable 193 = .ok (.iload_n 1, 1) := by decide +kernel
theorem dX6_syllable_194 : decode cX6_syllable 194 = .ok (.invokevirtual 176, 3) := by decide +kernel
theorem dX6_syllable_197 : decode cX6_syllable 197 = .ok (.ireturn, 1) := by decide +kernel
theorem dX6_syllable_198 : decode cX6_syllable 198 = .ok (.aload_n 0, 1) := by decide +kernel
theorem dX6_syllable_199 : decode cX6_syllable 199 = .ok (.getfield 50, 3) := by decide +kernel
theorem dX6_syllable_202 : decode cX6_syllable 202 = .ok (.iload_n 1, 1) := by decide +kernel
theorem dX6_syllable_203 : decode cX6_syllable 203 = .ok (.invokevirtual 179, 3) := by decide +kernel
theorem dX6_syllable_206 : decode cX6_syllable 206 = .ok (.ireturn, 1) := by decide +kernel
theorem dX6_syllable_207 : decode cX6_syllable 207 = .ok (.aload_n 0, 1) := by decide +kernel
theorem dX6_syllable_208 : decode cX6_syllable 208 = .ok (.getfield 50, 3) := by decide +kernel
theorem dX6_syllable_211 : decode cX6_syllable 211 = .ok (.iload_n 1, 1) := by decide +kernel
theorem dX6_syllable_212 : decode cX6_syllable 212 = .ok (.invokevirtual 182, 3) := by decide +kernel
theorem dX6_syllable_215 : decode cX6_syllable 215 = .ok (.ireturn, 1) := by decide +kernel
theorem dX6_syllable_216 : decode cX6_syllable 216 = .ok (.aload_n 0, 1) := by decide +kernel
theorem dX6_syllable_217 : decode cX6_syllable 217 = .ok (.getfield 50, 3) := by decide +kernel
theorem dX6_syllable_220 : decode cX6_syllable 220 = .ok (.iload_n 1, 1) := by decide +kernel
theorem dX6_syllable_221 : decode cX6_syllable 221 = .ok (.invokevirtual 185, 3) := by decide +kernel
theorem dX6_syllable_224 : decode cX6_syllable 224 = .ok (.ireturn, 1) := by decide +kernel
theorem dX6_syllable_225 : decode cX6_syllable 225 = .ok (.aload_n 0, 1) := by decide +kernel
theorem dX6_syllable_226 : decode cX6_syllable 226 = .ok (.getfield 50, 3) := by decide +kernel
theorem dX6_syllable_229 : decode cX6_syllable 229 = .ok (.iload_n 1, 1) := by decide +kernel
theorem dX6_syllable_230 : decode cX6_syllable 230 = .ok (.invokevirtual 188, 3) := by decide +kernel
theorem dX6_syllable_233 : decode cX6_syllable 233 = .ok (.ireturn, 1) := by decide +kernel
theorem dX6_wanted_0 : decode cX6_wanted 0 = .ok (.iload_n 1, 1) := by decide +kernel
theorem dX6_wanted_1 : decode cX6_wanted 1 = .ok (.iconst 0, 1) := by decide +kernel
theorem dX6_wanted_2 : decode cX6_wanted 2 = .ok (.sipush 599, 3) := by decide +kernel
theorem dX6_wanted_5 : decode cX6_wanted 5 = .ok (.invokestatic 54, 3) := by decide +kernel
theorem dX6_wanted_8 : decode cX6_wanted 8 = .ok (.ifCond .ne 6, 3) := by decide +kernel
theorem dX6_wanted_11 : decode cX6_wanted 11 = .ok (.bipush (-2), 2) := by decide +kernel
theorem dX6_wanted_13 : decode cX6_wanted 13 = .ok (.ireturn, 1) := by decide +kernel
theorem dX6_wanted_14 : decode cX6_wanted 14 = .ok (.aload_n 0, 1) := by decide +kernel
theorem dX6_wanted_15 : decode cX6_wanted 15 = .ok (.getfield 10, 3) := by decide +kernel
theorem dX6_wanted_18 : decode cX6_wanted 18 = .ok (.getfield 58, 3) := by decide +kernel
theorem dX6_wanted_21 : decode cX6_wanted 21 = .ok (.astore_n 2, 1) := by decide +kernel
theorem dX6_wanted_22 : decode cX6_wanted 22 = .ok (.iconst 0, 1) := by decide +kernel
theorem dX6_wanted_23 : decode cX6_wanted 23 = .ok (.istore_n 3, 1) := by decide +kernel
theorem dX6_wanted_24 : decode cX6_wanted 24 = .ok (.iload_n 3, 1) := by decide +kernel
theorem dX6_wanted_25 : decode cX6_wanted 25 = .ok (.aload_n 2, 1) := by decide +kernel
theorem dX6_wanted_26 : decode cX6_wanted 26 = .ok (.invokevirtual 76, 3) := by decide +kernel
theorem dX6_wanted_29 : decode cX6_wanted 29 = .ok (.if_icmp .ge 42, 3) := by decide +kernel
theorem dX6_wanted_32 : decode cX6_wanted 32 = .ok (.iload_n 1, 1) := by decide +kernel
theorem dX6_wanted_33 : decode cX6_wanted 33 = .ok (.aload_n 2, 1) := by decide +kernel
theorem dX6_wanted_34 : decode cX6_wanted 34 = .ok (.iload_n 3, 1) := by decide +kernel
theorem dX6_wanted_35 : decode cX6_wanted 35 = .ok (.invokevirtual 154, 3) := by decide +kernel
theorem dX6_wanted_38 : decode cX6_wanted 38 = .ok (.isub, 1) := by decide +kernel
theorem dX6_wanted_39 : decode cX6_wanted 39 = .ok (.istore 4, 2) := by decide +kernel
theorem dX6_wanted_41 : decode cX6_wanted 41 = .ok (.iload 4, 2) := by decide +kernel
theorem dX6_wanted_43 : decode cX6_wanted 43 = .ok (.iconst 0, 1) := by decide +kernel
theorem dX6_wanted_44 : decode cX6_wanted 44 = .ok (.aload_n 2, 1) := by decide +kernel
theorem dX6_wanted_45 : decode cX6_wanted 45 = .ok (.iload_n 3, 1) := by decide +kernel
theorem dX6_wanted_46 : decode cX6_wanted 46 = .ok (.invokevirtual 157, 3) := by decide +kernel
theorem dX6_wanted_49 : decode cX6_wanted 49 = .ok (.iconst 1, 1) := by decide +kernel
theorem dX6_wanted_50 : decode cX6_wanted 50 = .ok (.isub, 1) := by decide +kernel
theorem dX6_wanted_51 : decode cX6_wanted 51 = .ok (.invokestatic 54, 3) := by decide +kernel
theorem dX6_wanted_54 : decode cX6_wanted 54 = .ok (.ifCond .eq 11, 3) := by decide +kernel
theorem dX6_wanted_57 : decode cX6_wanted 57 = .ok (.aload_n 2, 1) := by decide +kernel
theorem dX6_wanted_58 : decode cX6_wanted 58 = .ok (.iload_n 3, 1) := by decide +kernel
theorem dX6_wanted_59 : decode cX6_wanted 59 = .ok (.iload 4, 2) := by decide +kernel
theorem dX6_wanted_61 : decode cX6_wanted 61 = .ok (.invokevirtual 191, 3) := by decide +kernel
theorem dX6_wanted_64 : decode cX6_wanted 64 = .ok (.ireturn, 1) := by decide +kernel
theorem dX6_wanted_65 : decode cX6_wanted 65 = .ok (.iinc 3 1, 3) := by decide +kernel
theorem dX6_wanted_68 : decode cX6_wanted 68 = .ok (.goto (-44), 3) := by decide +kernel
theorem dX6_wanted_71 : decode cX6_wanted 71 = .ok (.bipush (-5), 2) := by decide +kernel
theorem dX6_wanted_73 : decode cX6_wanted 73 = .ok (.ireturn, 1) := by decide +kernel
theorem dX6_sung_0 : decode cX6_sung 0 = .ok (.iload_n 1, 1) := by decide +kernel
theorem dX6_sung_1 : decode cX6_sung 1 = .ok (.iconst 0, 1) := by decide +kernel
theorem dX6_sung_2 : decode cX6_sung 2 = .ok (.sipush 599, 3) := by decide +kernel
theorem dX6_sung_5 : decode cX6_sung 5 = .ok (.invokestatic 54, 3) := by decide +kernel
theorem dX6_sung_8 : decode cX6_sung 8 = .ok (.ifCond .ne 6, 3) := by decide +kernel
theorem dX6_sung_11 : decode cX6_sung 11 = .ok (.bipush (-2), 2) := by decide +kernel
theorem dX6_sung_13 : decode cX6_sung 13 = .ok (.ireturn, 1) := by decide +kernel
theorem dX6_sung_14 : decode cX6_sung 14 = .ok (.aload_n 0, 1) := by decide +kernel
theorem dX6_sung_15 : decode cX6_sung 15 = .ok (.getfield 10, 3) := by decide +kernel
theorem dX6_sung_18 : decode cX6_sung 18 = .ok (.iload_n 1, 1) := by decide +kernel
theorem dX6_sung_19 : decode cX6_sung 19 = .ok (.invokevirtual 194, 3) := by decide +kernel
theorem dX6_sung_22 : decode cX6_sung 22 = .ok (.istore_n 2, 1) := by decide +kernel
theorem dX6_sung_23 : decode cX6_sung 23 = .ok (.iload_n 2, 1) := by decide +kernel
theorem dX6_sung_24 : decode cX6_sung 24 = .ok (.iconst (-1), 1) := by decide +kernel
theorem dX6_sung_25 : decode cX6_sung 25 = .ok (.if_icmp .ne 8, 3) := by decide +kernel
theorem dX6_sung_28 : decode cX6_sung 28 = .ok (.bipush (-5), 2) := by decide +kernel
theorem dX6_sung_30 : decode cX6_sung 30 = .ok (.goto 4, 3) := by decide +kernel
theorem dX6_sung_33 : decode cX6_sung 33 = .ok (.iload_n 2, 1) := by decide +kernel
theorem dX6_sung_34 : decode cX6_sung 34 = .ok (.ireturn, 1) := by decide +kernel
theorem dX6_lit_0 : decode cX6_lit 0 = .ok (.aload_n 0, 1) := by decide +kernel
theorem dX6_lit_1 : decode cX6_lit 1 = .ok (.getfield 10, 3) := by decide +kernel
theorem dX6_lit_4 : decode cX6_lit 4 = .ok (.getfield 58, 3) := by decide +kernel
theorem dX6_lit_7 : decode cX6_lit 7 = .ok (.iload_n 1, 1) := by decide +kernel
theorem dX6_lit_8 : decode cX6_lit 8 = .ok (.invokevirtual 129, 3) := by decide +kernel
theorem dX6_lit_11 : decode cX6_lit 11 = .ok (.ifCond .ne 5, 3) := by decide +kernel
theorem dX6_lit_14 : decode cX6_lit 14 = .ok (.iconst (-1), 1) := by decide +kernel
theorem dX6_lit_15 : decode cX6_lit 15 = .ok (.ireturn, 1) := by decide +kernel
theorem dX6_lit_16 : decode cX6_lit 16 = .ok (.iload_n 2, 1) := by decide +kernel
theorem dX6_lit_17 : decode cX6_lit 17 = .ok (.iconst 0, 1) := by decide +kernel
theorem dX6_lit_18 : decode cX6_lit 18 = .ok (.sipush 599, 3) := by decide +kernel
theorem dX6_lit_21 : decode cX6_lit 21 = .ok (.invokestatic 54, 3) := by decide +kernel
theorem dX6_lit_24 : decode cX6_lit 24 = .ok (.ifCond .ne 6, 3) := by decide +kernel
theorem dX6_lit_27 : decode cX6_lit 27 = .ok (.bipush (-2), 2) := by decide +kernel
theorem dX6_lit_29 : decode cX6_lit 29 = .ok (.ireturn, 1) := by decide +kernel
theorem dX6_lit_30 : decode cX6_lit 30 = .ok (.iload_n 2, 1) := by decide +kernel
theorem dX6_lit_31 : decode cX6_lit 31 = .ok (.aload_n 0, 1) := by decide +kernel
theorem dX6_lit_32 : decode cX6_lit 32 = .ok (.getfield 10, 3) := by decide +kernel
theorem dX6_lit_35 : decode cX6_lit 35 = .ok (.getfield 58, 3) := by decide +kernel
theorem dX6_lit_38 : decode cX6_lit 38 = .ok (.iload_n 1, 1) := by decide +kernel
theorem dX6_lit_39 : decode cX6_lit 39 = .ok (.invokevirtual 154, 3) := by decide +kernel
theorem dX6_lit_42 : decode cX6_lit 42 = .ok (.isub, 1) := by decide +kernel
theorem dX6_lit_43 : decode cX6_lit 43 = .ok (.iconst 1, 1) := by decide +kernel
theorem dX6_lit_44 : decode cX6_lit 44 = .ok (.iadd, 1) := by decide +kernel
theorem dX6_lit_45 : decode cX6_lit 45 = .ok (.istore_n 3, 1) := by decide +kernel
theorem dX6_lit_46 : decode cX6_lit 46 = .ok (.iconst 0, 1) := by decide +kernel
theorem dX6_lit_47 : decode cX6_lit 47 = .ok (.aload_n 0, 1) := by decide +kernel
theorem dX6_lit_48 : decode cX6_lit 48 = .ok (.getfield 10, 3) := by decide +kernel
theorem dX6_lit_51 : decode cX6_lit 51 = .ok (.getfield 58, 3) := by decide +kernel
theorem dX6_lit_54 : decode cX6_lit 54 = .ok (.iload_n 1, 1) := by decide +kernel
theorem dX6_lit_55 : decode cX6_lit 55 = .ok (.invokevirtual 157, 3) := by decide +kernel
theorem dX6_lit_58 : decode cX6_lit 58 = .ok (.iload_n 3, 1) := by decide +kernel
theorem dX6_lit_59 : decode cX6_lit 59 = .ok (.invokestatic 197, 3) := by decide +kernel
theorem dX6_lit_62 : decode cX6_lit 62 = .ok (.invokestatic 202, 3) := by decide +kernel
theorem dX6_lit_65 : decode cX6_lit 65 = .ok (.ireturn, 1) := by decide +kernel
theorem dX6_phrase_0 : decode cX6_phrase 0 = .ok (.iload_n 1, 1) := by decide +kernel
theorem dX6_phrase_1 : decode cX6_phrase 1 = .ok (.iconst 0, 1) := by decide +kernel
theorem dX6_phrase_2 : decode cX6_phrase 2 = .ok (.aload_n 0, 1) := by decide +kernel
theorem dX6_phrase_3 : decode cX6_phrase 3 = .ok (.getfield 10, 3) := by decide +kernel
theorem dX6_phrase_6 : decode cX6_phrase 6 = .ok (.getfield 58, 3) := by decide +kernel
theorem dX6_phrase_9 : decode cX6_phrase 9 = .ok (.invokevirtual 205, 3) := by decide +kernel
theorem dX6_phrase_12 : decode cX6_phrase 12 = .ok (.iconst 1, 1) := by decide +kernel
theorem dX6_phrase_13 : decode cX6_phrase 13 = .ok (.isub, 1) := by decide +kernel
theorem dX6_phrase_14 : decode cX6_phrase 14 = .ok (.invokestatic 54, 3) := by decide +kernel
theorem dX6_phrase_17 : decode cX6_phrase 17 = .ok (.ifCond .ne 5, 3) := by decide +kernel
theorem dX6_phrase_20 : decode cX6_phrase 20 = .ok (.iconst (-1), 1) := by decide +kernel
theorem dX6_phrase_21 : decode cX6_phrase 21 = .ok (.ireturn, 1) := by decide +kernel
theorem dX6_phrase_22 : decode cX6_phrase 22 = .ok (.iload_n 2, 1) := by decide +kernel
theorem dX6_phrase_23 : decode cX6_phrase 23 = .ok (.iconst 0, 1) := by decide +kernel
theorem dX6_phrase_24 : decode cX6_phrase 24 = .ok (.iconst 4, 1) := by decide +kernel
theorem dX6_phrase_25 : decode cX6_phrase 25 = .ok (.invokestatic 54, 3) := by decide +kernel
theorem dX6_phrase_28 : decode cX6_phrase 28 = .ok (.ifCond .ne 6, 3) := by decide +kernel
theorem dX6_phrase_31 : decode cX6_phrase 31 = .ok (.bipush (-2), 2) := by decide +kernel
theorem dX6_phrase_33 : decode cX6_phrase 33 = .ok (.ireturn, 1) := by decide +kernel
theorem dX6_phrase_34 : decode cX6_phrase 34 = .ok (.aload_n 0, 1) := by decide +kernel
theorem dX6_phrase_35 : decode cX6_phrase 35 = .ok (.getfield 50, 3) := by decide +kernel
theorem dX6_phrase_38 : decode cX6_phrase 38 = .ok (.aload_n 0, 1) := by decide +kernel
theorem dX6_phrase_39 : decode cX6_phrase 39 = .ok (.getfield 10, 3) := by decide +kernel
theorem dX6_phrase_42 : decode cX6_phrase 42 = .ok (.invokevirtual 152, 3) := by decide +kernel
theorem dX6_phrase_45 : decode cX6_phrase 45 = .ok (.iload_n 2, 1) := by decide +kernel
theorem dX6_phrase_46 : decode cX6_phrase 46 = .ok (.tableswitch 72 0 3 #[30, 42, 54, 63], 30) := by decide +kernel
theorem dX6_phrase_76 : decode cX6_phrase 76 = .ok (.aload_n 0, 1) := by decide +kernel
theorem dX6_phrase_77 : decode cX6_phrase 77 = .ok (.getfield 10, 3) := by decide +kernel
theorem dX6_phrase_80 : decode cX6_phrase 80 = .ok (.getfield 58, 3) := by decide +kernel
theorem dX6_phrase_83 : decode cX6_phrase 83 = .ok (.iload_n 1, 1) := by decide +kernel
theorem dX6_phrase_84 : decode cX6_phrase 84 = .ok (.invokevirtual 208, 3) := by decide +kernel
theorem dX6_phrase_87 : decode cX6_phrase 87 = .ok (.ireturn, 1) := by decide +kernel
theorem dX6_phrase_88 : decode cX6_phrase 88 = .ok (.aload_n 0, 1) := by decide +kernel
theorem dX6_phrase_89 : decode cX6_phrase 89 = .ok (.getfield 10, 3) := by decide +kernel
theorem dX6_phrase_92 : decode cX6_phrase 92 = .ok (.getfield 58, 3) := by decide +kernel
theorem dX6_phrase_95 : decode cX6_phrase 95 = .ok (.iload_n 1, 1) := by decide +kernel
theorem dX6_phrase_96 : decode cX6_phrase 96 = .ok (.invokevirtual 211, 3) := by decide +kernel
theorem dX6_phrase_99 : decode cX6_phrase 99 = .ok (.ireturn, 1) := by decide +kernel
theorem dX6_phrase_100 : decode cX6_phrase 100 = .ok (.aload_n 0, 1) := by decide +kernel
theorem dX6_phrase_101 : decode cX6_phrase 101 = .ok (.getfield 50, 3) := by decide +kernel
theorem dX6_phrase_104 : decode cX6_phrase 104 = .ok (.iload_n 1, 1) := by decide +kernel
theorem dX6_phrase_105 : decode cX6_phrase 105 = .ok (.invokevirtual 214, 3) := by decide +kernel
theorem dX6_phrase_108 : decode cX6_phrase 108 = .ok (.ireturn, 1) := by decide +kernel
theorem dX6_phrase_109 : decode cX6_phrase 109 = .ok (.aload_n 0, 1) := by decide +kernel
theorem dX6_phrase_110 : decode cX6_phrase 110 = .ok (.getfield 50, 3) := by decide +kernel
theorem dX6_phrase_113 : decode cX6_phrase 113 = .ok (.iload_n 1, 1) := by decide +kernel
theorem dX6_phrase_114 : decode cX6_phrase 114 = .ok (.invokevirtual 217, 3) := by decide +kernel
theorem dX6_phrase_117 : decode cX6_phrase 117 = .ok (.ireturn, 1) := by decide +kernel
theorem dX6_phrase_118 : decode cX6_phrase 118 = .ok (.aload_n 0, 1) := by decide +kernel
theorem dX6_phrase_119 : decode cX6_phrase 119 = .ok (.getfield 50, 3) := by decide +kernel
theorem dX6_phrase_122 : decode cX6_phrase 122 = .ok (.iload_n 1, 1) := by decide +kernel
theorem dX6_phrase_123 : decode cX6_phrase 123 = .ok (.invokevirtual 220, 3) := by decide +kernel
theorem dX6_phrase_126 : decode cX6_phrase 126 = .ok (.ireturn, 1) := by decide +kernel
theorem dX6_total_0 : decode cX6_total 0 = .ok (.iload_n 1, 1) := by decide +kernel
theorem dX6_total_1 : decode cX6_total 1 = .ok (.iconst 0, 1) := by decide +kernel
theorem dX6_total_2 : decode cX6_total 2 = .ok (.bipush 14, 2) := by decide +kernel
theorem dX6_total_4 : decode cX6_total 4 = .ok (.invokestatic 54, 3) := by decide +kernel
theorem dX6_total_7 : decode cX6_total 7 = .ok (.ifCond .ne 6, 3) := by decide +kernel
theorem dX6_total_10 : decode cX6_total 10 = .ok (.bipush (-2), 2) := by decide +kernel
theorem dX6_total_12 : decode cX6_total 12 = .ok (.ireturn, 1) := by decide +kernel
theorem dX6_total_13 : decode cX6_total 13 = .ok (.iload_n 1, 1) := by decide +kernel
theorem dX6_total_14 : decode cX6_total 14 = .ok (.invokestatic 101, 3) := by decide +kernel
theorem dX6_total_17 : decode cX6_total 17 = .ok (.ifCond .eq 12, 3) := by decide +kernel
theorem dX6_total_20 : decode cX6_total 20 = .ok (.aload_n 0, 1) := by decide +kernel
theorem dX6_total_21 : decode cX6_total 21 = .ok (.getfield 10, 3) := by decide +kernel
theorem dX6_total_24 : decode cX6_total 24 = .ok (.iload_n 1, 1) := by decide +kernel
theorem dX6_total_25 : decode cX6_total 25 = .ok (.invokevirtual 108, 3) := by decide +kernel
theorem dX6_total_28 : decode cX6_total 28 = .ok (.ireturn, 1) := by decide +kernel
theorem dX6_total_29 : decode cX6_total 29 = .ok (.iload_n 1, 1) := by decide +kernel
theorem dX6_total_30 : decode cX6_total 30 = .ok (.tableswitch 126 5 13 #[50, 61, 72, 83, 91, 99, 104, 113, 118], 50) := by decide +kernel
theorem dX6_total_80 : decode cX6_total 80 = .ok (.aload_n 0, 1) := by decide +kernel
theorem dX6_total_81 : decode cX6_total 81 = .ok (.getfield 10, 3) := by decide +kernel
theorem dX6_total_84 : decode cX6_total 84 = .ok (.getfield 58, 3) := by decide +kernel
theorem dX6_total_87 : decode cX6_total 87 = .ok (.invokevirtual 76, 3) := by decide +kernel
theorem dX6_total_90 : decode cX6_total 90 = .ok (.ireturn, 1) := by decide +kernel
theorem dX6_total_91 : decode cX6_total 91 = .ok (.aload_n 0, 1) := by decide +kernel
theorem dX6_total_92 : decode cX6_total 92 = .ok (.getfield 10, 3) := by decide +kernel
theorem dX6_total_95 : decode cX6_total 95 = .ok (.getfield 58, 3) := by decide +kernel
theorem dX6_total_98 : decode cX6_total 98 = .ok (.invokevirtual 205, 3) := by decide +kernel
theorem dX6_total_101 : decode cX6_total 101 = .ok (.ireturn, 1) := by decide +kernel
theorem dX6_total_102 : decode cX6_total 102 = .ok (.aload_n 0, 1) := by decide +kernel
theorem dX6_total_103 : decode cX6_total 103 = .ok (.getfield 10, 3) := by decide +kernel
theorem dX6_total_106 : decode cX6_total 106 = .ok (.getfield 58, 3) := by decide +kernel
theorem dX6_total_109 : decode cX6_total 109 = .ok (.invokevirtual 223, 3) := by decide +kernel
theorem dX6_total_112 : decode cX6_total 112 = .ok (.ireturn, 1) := by decide +kernel
theorem dX6_total_113 : decode cX6_total 113 = .ok (.aload_n 0, 1) := by decide +kernel
theorem dX6_total_114 : decode cX6_total 114 = .ok (.getfield 10, 3) := by decide +kernel
theorem dX6_total_117 : decode cX6_total 117 = .ok (.invokevirtual 126, 3) := by decide +kernel
theorem dX6_total_120 : decode cX6_total 120 = .ok (.ireturn, 1) := by decide +kernel
theorem dX6_total_121 : decode cX6_total 121 = .ok (.aload_n 0, 1) := by decide +kernel
theorem dX6_total_122 : decode cX6_total 122 = .ok (.getfield 10, 3) := by decide +kernel
theorem dX6_total_125 : decode cX6_total 125 = .ok (.invokevirtual 226, 3) := by decide +kernel
theorem dX6_total_128 : decode cX6_total 128 = .ok (.ireturn, 1) := by decide +kernel
theorem dX6_total_129 : decode cX6_total 129 = .ok (.aload_n 0, 1) := by decide +kernel
theorem dX6_total_130 : decode cX6_total 130 = .ok (.invokevirtual 123, 3) := by decide +kernel
theorem dX6_total_133 : decode cX6_total 133 = .ok (.ireturn, 1) := by decide +kernel
theorem dX6_total_134 : decode cX6_total 134 = .ok (.aload_n 0, 1) := by decide +kernel
theorem dX6_total_135 : decode cX6_total 135 = .ok (.aload_n 0, 1) := by decide +kernel
theorem dX6_total_136 : decode cX6_total 136 = .ok (.getfield 10, 3) := by decide +kernel
theorem dX6_total_139 : decode cX6_total 139 = .ok (.invokevirtual 229, 3) := by decide +kernel
theorem dX6_total_142 : decode cX6_total 142 = .ok (.ireturn, 1) := by decide +kernel
theorem dX6_total_143 : decode cX6_total 143 = .ok (.aload_n 0, 1) := by decide +kernel
theorem dX6_total_144 : decode cX6_total 144 = .ok (.invokevirtual 231, 3) := by decide +kernel
theorem dX6_total_147 : decode cX6_total 147 = .ok (.ireturn, 1) := by decide +kernel
theorem dX6_total_148 : decode cX6_total 148 = .ok (.aload_n 0, 1) := by decide +kernel
theorem dX6_total_149 : decode cX6_total 149 = .ok (.getfield 29, 3) := by decide +kernel
theorem dX6_total_152 : decode cX6_total 152 = .ok (.invokevirtual 145, 3) := by decide +kernel
theorem dX6_total_155 : decode cX6_total 155 = .ok (.ireturn, 1) := by decide +kernel
theorem dX6_total_156 : decode cX6_total 156 = .ok (.aload_n 0, 1) := by decide +kernel
theorem dX6_total_157 : decode cX6_total 157 = .ok (.getfield 36, 3) := by decide +kernel
theorem dX6_total_160 : decode cX6_total 160 = .ok (.invokevirtual 234, 3) := by decide +kernel
theorem dX6_total_163 : decode cX6_total 163 = .ok (.ireturn, 1) := by decide +kernel
theorem dX6_ifShifted_0 : decode cX6_ifShifted 0 = .ok (.iload_n 1, 1) := by decide +kernel
theorem dX6_ifShifted_1 : decode cX6_ifShifted 1 = .ok (.bipush (-32), 2) := by decide +kernel
theorem dX6_ifShifted_3 : decode cX6_ifShifted 3 = .ok (.bipush 32, 2) := by decide +kernel
theorem dX6_ifShifted_5 : decode cX6_ifShifted 5 = .ok (.invokestatic 54, 3) := by decide +kernel
theorem dX6_ifShifted_8 : decode cX6_ifShifted 8 = .ok (.ifCond .eq 14, 3) := by decide +kernel
theorem dX6_ifShifted_11 : decode cX6_ifShifted 11 = .ok (.iload_n 2, 1) := by decide +kernel
theorem dX6_ifShifted_12 : decode cX6_ifShifted 12 = .ok (.bipush (-60), 2) := by decide +kernel
theorem dX6_ifShifted_14 : decode cX6_ifShifted 14 = .ok (.bipush 60, 2) := by decide +kernel
theorem dX6_ifShifted_16 : decode cX6_ifShifted 16 = .ok (.invokestatic 54, 3) := by decide +kernel
theorem dX6_ifShifted_19 : decode cX6_ifShifted 19 = .ok (.ifCond .ne 6, 3) := by decide +kernel
theorem dX6_ifShifted_22 : decode cX6_ifShifted 22 = .ok (.bipush (-2), 2) := by decide +kernel
theorem dX6_ifShifted_24 : decode cX6_ifShifted 24 = .ok (.ireturn, 1) := by decide +kernel
theorem dX6_ifShifted_25 : decode cX6_ifShifted 25 = .ok (.aload_n 0, 1) := by decide +kernel
theorem dX6_ifShifted_26 : decode cX6_ifShifted 26 = .ok (.getfield 16, 3) := by decide +kernel
theorem dX6_ifShifted_29 : decode cX6_ifShifted 29 = .ok (.aload_n 0, 1) := by decide +kernel
theorem dX6_ifShifted_30 : decode cX6_ifShifted 30 = .ok (.getfield 10, 3) := by decide +kernel
theorem dX6_ifShifted_33 : decode cX6_ifShifted 33 = .ok (.invokevirtual 150, 3) := by decide +kernel
theorem dX6_ifShifted_36 : decode cX6_ifShifted 36 = .ok (.aload_n 0, 1) := by decide +kernel
theorem dX6_ifShifted_37 : decode cX6_ifShifted 37 = .ok (.iload_n 1, 1) := by decide +kernel
theorem dX6_ifShifted_38 : decode cX6_ifShifted 38 = .ok (.iload_n 2, 1) := by decide +kernel
theorem dX6_ifShifted_39 : decode cX6_ifShifted 39 = .ok (.invokevirtual 235, 3) := by decide +kernel
theorem dX6_ifShifted_42 : decode cX6_ifShifted 42 = .ok (.ireturn, 1) := by decide +kernel
theorem dX6_bestShift_0 : decode cX6_bestShift 0 = .ok (.aload_n 0, 1) := by decide +kernel
theorem dX6_bestShift_1 : decode cX6_bestShift 1 = .ok (.getfield 16, 3) := by decide +kernel
theorem dX6_bestShift_4 : decode cX6_bestShift 4 = .ok (.aload_n 0, 1) := by decide +kernel
theorem dX6_bestShift_5 : decode cX6_bestShift 5 = .ok (.getfield 10, 3) := by decide +kernel
theorem dX6_bestShift_8 : decode cX6_bestShift 8 = .ok (.invokevirtual 150, 3) := by decide +kernel
theorem dX6_bestShift_11 : decode cX6_bestShift 11 = .ok (.iconst 0, 1) := by decide +kernel
theorem dX6_bestShift_12 : decode cX6_bestShift 12 = .ok (.istore_n 1, 1) := by decide +kernel
theorem dX6_bestShift_13 : decode cX6_bestShift 13 = .ok (.aload_n 0, 1) := by decide +kernel
theorem dX6_bestShift_14 : decode cX6_bestShift 14 = .ok (.iconst 0, 1) := by decide +kernel
theorem dX6_bestShift_15 : decode cX6_bestShift 15 = .ok (.iconst 0, 1) := by decide +kernel
theorem dX6_bestShift_16 : decode cX6_bestShift 16 = .ok (.invokevirtual 235, 3) := by decide +kernel
theorem dX6_bestShift_19 : decode cX6_bestShift 19 = .ok (.istore_n 2, 1) := by decide +kernel
theorem dX6_bestShift_20 : decode cX6_bestShift 20 = .ok (.iconst 1, 1) := by decide +kernel
theorem dX6_bestShift_21 : decode cX6_bestShift 21 = .ok (.istore_n 3, 1) := by decide +kernel
theorem dX6_bestShift_22 : decode cX6_bestShift 22 = .ok (.iload_n 3, 1) := by decide +kernel
theorem dX6_bestShift_23 : decode cX6_bestShift 23 = .ok (.bipush 32, 2) := by decide +kernel
theorem dX6_bestShift_25 : decode cX6_bestShift 25 = .ok (.if_icmp .gt 49, 3) := by decide +kernel
theorem dX6_bestShift_28 : decode cX6_bestShift 28 = .ok (.aload_n 0, 1) := by decide +kernel
theorem dX6_bestShift_29 : decode cX6_bestShift 29 = .ok (.iload_n 3, 1) := by decide +kernel
theorem dX6_bestShift_30 : decode cX6_bestShift 30 = .ok (.ineg, 1) := by decide +kernel
theorem dX6_bestShift_31 : decode cX6_bestShift 31 = .ok (.iconst 0, 1) := by decide +kernel
theorem dX6_bestShift_32 : decode cX6_bestShift 32 = .ok (.invokevirtual 235, 3) := by decide +kernel
theorem dX6_bestShift_35 : decode cX6_bestShift 35 = .ok (.istore 4, 2) := by decide +kernel
theorem dX6_bestShift_37 : decode cX6_bestShift 37 = .ok (.iload 4, 2) := by decide +kernel
theorem dX6_bestShift_39 : decode cX6_bestShift 39 = .ok (.iload_n 2, 1) := by decide +kernel
theorem dX6_bestShift_40 : decode cX6_bestShift 40 = .ok (.if_icmp .le 9, 3) := by decide +kernel
theorem dX6_bestShift_43 : decode cX6_bestShift 43 = .ok (.iload 4, 2) := by decide +kernel
theorem dX6_bestShift_45 : decode cX6_bestShift 45 = .ok (.istore_n 2, 1) := by decide +kernel
theorem dX6_bestShift_46 : decode cX6_bestShift 46 = .ok (.iload_n 3, 1) := by decide +kernel
theorem dX6_bestShift_47 : decode cX6_bestShift 47 = .ok (.ineg, 1) := by decide +kernel
theorem dX6_bestShift_48 : decode cX6_bestShift 48 = .ok (.istore_n 1, 1) := by decide +kernel
theorem dX6_bestShift_49 : decode cX6_bestShift 49 = .ok (.aload_n 0, 1) := by decide +kernel
theorem dX6_bestShift_50 : decode cX6_bestShift 50 = .ok (.iload_n 3, 1) := by decide +kernel
theorem dX6_bestShift_51 : decode cX6_bestShift 51 = .ok (.iconst 0, 1) := by decide +kernel
theorem dX6_bestShift_52 : decode cX6_bestShift 52 = .ok (.invokevirtual 235, 3) := by decide +kernel
theorem dX6_bestShift_55 : decode cX6_bestShift 55 = .ok (.istore 5, 2) := by decide +kernel
theorem dX6_bestShift_57 : decode cX6_bestShift 57 = .ok (.iload 5, 2) := by decide +kernel
theorem dX6_bestShift_59 : decode cX6_bestShift 59 = .ok (.iload_n 2, 1) := by decide +kernel
theorem dX6_bestShift_60 : decode cX6_bestShift 60 = .ok (.if_icmp .le 8, 3) := by decide +kernel
theorem dX6_bestShift_63 : decode cX6_bestShift 63 = .ok (.iload 5, 2) := by decide +kernel
theorem dX6_bestShift_65 : decode cX6_bestShift 65 = .ok (.istore_n 2, 1) := by decide +kernel
theorem dX6_bestShift_66 : decode cX6_bestShift 66 = .ok (.iload_n 3, 1) := by decide +kernel
theorem dX6_bestShift_67 : decode cX6_bestShift 67 = .ok (.istore_n 1, 1) := by decide +kernel
theorem dX6_bestShift_68 : decode cX6_bestShift 68 = .ok (.iinc 3 1, 3) := by decide +kernel
theorem dX6_bestShift_71 : decode cX6_bestShift 71 = .ok (.goto (-49), 3) := by decide +kernel
theorem dX6_bestShift_74 : decode cX6_bestShift 74 = .ok (.iload_n 1, 1) := by decide +kernel
theorem dX6_bestShift_75 : decode cX6_bestShift 75 = .ok (.bipush 32, 2) := by decide +kernel
theorem dX6_bestShift_77 : decode cX6_bestShift 77 = .ok (.iadd, 1) := by decide +kernel
theorem dX6_bestShift_78 : decode cX6_bestShift 78 = .ok (.ireturn, 1) := by decide +kernel
theorem dX6_ifSet_0 : decode cX6_ifSet 0 = .ok (.iload_n 1, 1) := by decide +kernel
theorem dX6_ifSet_1 : decode cX6_ifSet 1 = .ok (.invokestatic 101, 3) := by decide +kernel
theorem dX6_ifSet_4 : decode cX6_ifSet 4 = .ok (.ifCond .ne 5, 3) := by decide +kernel
theorem dX6_ifSet_7 : decode cX6_ifSet 7 = .ok (.iconst (-1), 1) := by decide +kernel
theorem dX6_ifSet_8 : decode cX6_ifSet 8 = .ok (.ireturn, 1) := by decide +kernel
theorem dX6_ifSet_9 : decode cX6_ifSet 9 = .ok (.iload_n 1, 1) := by decide +kernel
theorem dX6_ifSet_10 : decode cX6_ifSet 10 = .ok (.iload_n 2, 1) := by decide +kernel
theorem dX6_ifSet_11 : decode cX6_ifSet 11 = .ok (.invokestatic 105, 3) := by decide +kernel
theorem dX6_ifSet_14 : decode cX6_ifSet 14 = .ok (.ifCond .ne 6, 3) := by decide +kernel
theorem dX6_ifSet_17 : decode cX6_ifSet 17 = .ok (.bipush (-2), 2) := by decide +kernel
theorem dX6_ifSet_19 : decode cX6_ifSet 19 = .ok (.ireturn, 1) := by decide +kernel
theorem dX6_ifSet_20 : decode cX6_ifSet 20 = .ok (.aload_n 0, 1) := by decide +kernel
theorem dX6_ifSet_21 : decode cX6_ifSet 21 = .ok (.getfield 16, 3) := by decide +kernel
theorem dX6_ifSet_24 : decode cX6_ifSet 24 = .ok (.aload_n 0, 1) := by decide +kernel
theorem dX6_ifSet_25 : decode cX6_ifSet 25 = .ok (.getfield 10, 3) := by decide +kernel
theorem dX6_ifSet_28 : decode cX6_ifSet 28 = .ok (.invokevirtual 150, 3) := by decide +kernel
theorem dX6_ifSet_31 : decode cX6_ifSet 31 = .ok (.aload_n 0, 1) := by decide +kernel
theorem dX6_ifSet_32 : decode cX6_ifSet 32 = .ok (.getfield 16, 3) := by decide +kernel
theorem dX6_ifSet_35 : decode cX6_ifSet 35 = .ok (.iload_n 1, 1) := by decide +kernel
theorem dX6_ifSet_36 : decode cX6_ifSet 36 = .ok (.iload_n 2, 1) := by decide +kernel
theorem dX6_ifSet_37 : decode cX6_ifSet 37 = .ok (.invokevirtual 112, 3) := by decide +kernel
theorem dX6_ifSet_40 : decode cX6_ifSet 40 = .ok (.aload_n 0, 1) := by decide +kernel
theorem dX6_ifSet_41 : decode cX6_ifSet 41 = .ok (.aload_n 0, 1) := by decide +kernel
theorem dX6_ifSet_42 : decode cX6_ifSet 42 = .ok (.getfield 16, 3) := by decide +kernel
theorem dX6_ifSet_45 : decode cX6_ifSet 45 = .ok (.invokevirtual 229, 3) := by decide +kernel
theorem dX6_ifSet_48 : decode cX6_ifSet 48 = .ok (.ireturn, 1) := by decide +kernel
theorem dX6_worst_0 : decode cX6_worst 0 = .ok (.aload_n 0, 1) := by decide +kernel
theorem dX6_worst_1 : decode cX6_worst 1 = .ok (.getfield 10, 3) := by decide +kernel
theorem dX6_worst_4 : decode cX6_worst 4 = .ok (.getfield 58, 3) := by decide +kernel
theorem dX6_worst_7 : decode cX6_worst 7 = .ok (.invokevirtual 205, 3) := by decide +kernel
theorem dX6_worst_10 : decode cX6_worst 10 = .ok (.istore_n 1, 1) := by decide +kernel
theorem dX6_worst_11 : decode cX6_worst 11 = .ok (.iload_n 1, 1) := by decide +kernel
theorem dX6_worst_12 : decode cX6_worst 12 = .ok (.ifCond .ne 6, 3) := by decide +kernel
theorem dX6_worst_15 : decode cX6_worst 15 = .ok (.bipush (-5), 2) := by decide +kernel
theorem dX6_worst_17 : decode cX6_worst 17 = .ok (.ireturn, 1) := by decide +kernel
theorem dX6_worst_18 : decode cX6_worst 18 = .ok (.aload_n 0, 1) := by decide +kernel
theorem dX6_worst_19 : decode cX6_worst 19 = .ok (.getfield 50, 3) := by decide +kernel
theorem dX6_worst_22 : decode cX6_worst 22 = .ok (.aload_n 0, 1) := by decide +kernel
theorem dX6_worst_23 : decode cX6_worst 23 = .ok (.getfield 10, 3) := by decide +kernel
theorem dX6_worst_26 : decode cX6_worst 26 = .ok (.invokevirtual 152, 3) := by decide +kernel
theorem dX6_worst_29 : decode cX6_worst 29 = .ok (.iconst 0, 1) := by decide +kernel
theorem dX6_worst_30 : decode cX6_worst 30 = .ok (.istore_n 2, 1) := by decide +kernel
theorem dX6_worst_31 : decode cX6_worst 31 = .ok (.iconst 1, 1) := by decide +kernel
theorem dX6_worst_32 : decode cX6_worst 32 = .ok (.istore_n 3, 1) := by decide +kernel
theorem dX6_worst_33 : decode cX6_worst 33 = .ok (.iload_n 3, 1) := by decide +kernel
theorem dX6_worst_34 : decode cX6_worst 34 = .ok (.iload_n 1, 1) := by decide +kernel
theorem dX6_worst_35 : decode cX6_worst 35 = .ok (.if_icmp .ge 30, 3) := by decide +kernel
theorem dX6_worst_38 : decode cX6_worst 38 = .ok (.aload_n 0, 1) := by decide +kernel
theorem dX6_worst_39 : decode cX6_worst 39 = .ok (.getfield 50, 3) := by decide +kernel
theorem dX6_worst_42 : decode cX6_worst 42 = .ok (.iload_n 3, 1) := by decide +kernel
theorem dX6_worst_43 : decode cX6_worst 43 = .ok (.invokevirtual 217, 3) := by decide +kernel
theorem dX6_worst_46 : decode cX6_worst 46 = .ok (.aload_n 0, 1) := by decide +kernel
theorem dX6_worst_47 : decode cX6_worst 47 = .ok (.getfield 50, 3) := by decide +kernel
theorem dX6_worst_50 : decode cX6_worst 50 = .ok (.iload_n 2, 1) := by decide +kernel
theorem dX6_worst_51 : decode cX6_worst 51 = .ok (.invokevirtual 217, 3) := by decide +kernel
theorem dX6_worst_54 : decode cX6_worst 54 = .ok (.if_icmp .ge 5, 3) := by decide +kernel
theorem dX6_worst_57 : decode cX6_worst 57 = .ok (.iload_n 3, 1) := by decide +kernel
theorem dX6_worst_58 : decode cX6_worst 58 = .ok (.istore_n 2, 1) := by decide +kernel
theorem dX6_worst_59 : decode cX6_worst 59 = .ok (.iinc 3 1, 3) := by decide +kernel
theorem dX6_worst_62 : decode cX6_worst 62 = .ok (.goto (-29), 3) := by decide +kernel
theorem dX6_worst_65 : decode cX6_worst 65 = .ok (.iload_n 2, 1) := by decide +kernel
theorem dX6_worst_66 : decode cX6_worst 66 = .ok (.ireturn, 1) := by decide +kernel
theorem dX6_isWithin_0 : decode cX6_isWithin 0 = .ok (.iload_n 0, 1) := by decide +kernel
theorem dX6_isWithin_1 : decode cX6_isWithin 1 = .ok (.iload_n 1, 1) := by decide +kernel
theorem dX6_isWithin_2 : decode cX6_isWithin 2 = .ok (.if_icmp .lt 12, 3) := by decide +kernel
theorem dX6_isWithin_5 : decode cX6_isWithin 5 = .ok (.iload_n 0, 1) := by decide +kernel
theorem dX6_isWithin_6 : decode cX6_isWithin 6 = .ok (.iload_n 2, 1) := by decide +kernel
theorem dX6_isWithin_7 : decode cX6_isWithin 7 = .ok (.if_icmp .gt 7, 3) := by decide +kernel
theorem dX6_isWithin_10 : decode cX6_isWithin 10 = .ok (.iconst 1, 1) := by decide +kernel
theorem dX6_isWithin_11 : decode cX6_isWithin 11 = .ok (.goto 4, 3) := by decide +kernel
theorem dX6_isWithin_14 : decode cX6_isWithin 14 = .ok (.iconst 0, 1) := by decide +kernel
theorem dX6_isWithin_15 : decode cX6_isWithin 15 = .ok (.ireturn, 1) := by decide +kernel
theorem dX6_isSetting_0 : decode cX6_isSetting 0 = .ok (.iload_n 0, 1) := by decide +kernel
theorem dX6_isSetting_1 : decode cX6_isSetting 1 = .ok (.iconst 0, 1) := by decide +kernel
theorem dX6_isSetting_2 : decode cX6_isSetting 2 = .ok (.iconst 4, 1) := by decide +kernel
theorem dX6_isSetting_3 : decode cX6_isSetting 3 = .ok (.invokestatic 54, 3) := by decide +kernel
theorem dX6_isSetting_6 : decode cX6_isSetting 6 = .ok (.ireturn, 1) := by decide +kernel
theorem dX6_isValueOf_0 : decode cX6_isValueOf 0 = .ok (.iload_n 0, 1) := by decide +kernel
theorem dX6_isValueOf_1 : decode cX6_isValueOf 1 = .ok (.invokestatic 101, 3) := by decide +kernel
theorem dX6_isValueOf_4 : decode cX6_isValueOf 4 = .ok (.ifCond .eq 24, 3) := by decide +kernel
theorem dX6_isValueOf_7 : decode cX6_isValueOf 7 = .ok (.iload_n 1, 1) := by decide +kernel
theorem dX6_isValueOf_8 : decode cX6_isValueOf 8 = .ok (.getstatic 238, 3) := by decide +kernel
theorem dX6_isValueOf_11 : decode cX6_isValueOf 11 = .ok (.iload_n 0, 1) := by decide +kernel
theorem dX6_isValueOf_12 : decode cX6_isValueOf 12 = .ok (.iaload, 1) := by decide +kernel
theorem dX6_isValueOf_13 : decode cX6_isValueOf 13 = .ok (.getstatic 242, 3) := by decide +kernel
theorem dX6_isValueOf_16 : decode cX6_isValueOf 16 = .ok (.iload_n 0, 1) := by decide +kernel
theorem dX6_isValueOf_17 : decode cX6_isValueOf 17 = .ok (.iaload, 1) := by decide +kernel
theorem dX6_isValueOf_18 : decode cX6_isValueOf 18 = .ok (.invokestatic 54, 3) := by decide +kernel
theorem dX6_isValueOf_21 : decode cX6_isValueOf 21 = .ok (.ifCond .eq 7, 3) := by decide +kernel
theorem dX6_isValueOf_24 : decode cX6_isValueOf 24 = .ok (.iconst 1, 1) := by decide +kernel
theorem dX6_isValueOf_25 : decode cX6_isValueOf 25 = .ok (.goto 4, 3) := by decide +kernel
theorem dX6_isValueOf_28 : decode cX6_isValueOf 28 = .ok (.iconst 0, 1) := by decide +kernel
theorem dX6_isValueOf_29 : decode cX6_isValueOf 29 = .ok (.ireturn, 1) := by decide +kernel
theorem dX6_areTicks_0 : decode cX6_areTicks 0 = .ok (.iload_n 0, 1) := by decide +kernel
theorem dX6_areTicks_1 : decode cX6_areTicks 1 = .ok (.iconst 0, 1) := by decide +kernel
theorem dX6_areTicks_2 : decode cX6_areTicks 2 = .ok (.sipush 599, 3) := by decide +kernel
theorem dX6_areTicks_5 : decode cX6_areTicks 5 = .ok (.invokestatic 54, 3) := by decide +kernel
theorem dX6_areTicks_8 : decode cX6_areTicks 8 = .ok (.ifCond .eq 25, 3) := by decide +kernel
theorem dX6_areTicks_11 : decode cX6_areTicks 11 = .ok (.iload_n 1, 1) := by decide +kernel
theorem dX6_areTicks_12 : decode cX6_areTicks 12 = .ok (.iconst 1, 1) := by decide +kernel
theorem dX6_areTicks_13 : decode cX6_areTicks 13 = .ok (.iload_n 2, 1) := by decide +kernel
theorem dX6_areTicks_14 : decode cX6_areTicks 14 = .ok (.invokestatic 54, 3) := by decide +kernel
theorem dX6_areTicks_17 : decode cX6_areTicks 17 = .ok (.ifCond .eq 16, 3) := by decide +kernel
theorem dX6_areTicks_20 : decode cX6_areTicks 20 = .ok (.iload_n 0, 1) := by decide +kernel
theorem dX6_areTicks_21 : decode cX6_areTicks 21 = .ok (.iload_n 1, 1) := by decide +kernel
theorem dX6_areTicks_22 : decode cX6_areTicks 22 = .ok (.iadd, 1) := by decide +kernel
theorem dX6_areTicks_23 : decode cX6_areTicks 23 = .ok (.sipush 600, 3) := by decide +kernel
theorem dX6_areTicks_26 : decode cX6_areTicks 26 = .ok (.if_icmp .gt 7, 3) := by decide +kernel
theorem dX6_areTicks_29 : decode cX6_areTicks 29 = .ok (.iconst 1, 1) := by decide +kernel
theorem dX6_areTicks_30 : decode cX6_areTicks 30 = .ok (.goto 4, 3) := by decide +kernel
theorem dX6_areTicks_33 : decode cX6_areTicks 33 = .ok (.iconst 0, 1) := by decide +kernel
theorem dX6_areTicks_34 : decode cX6_areTicks 34 = .ok (.ireturn, 1) := by decide +kernel
theorem dX6_hitsNow_0 : decode cX6_hitsNow 0 = .ok (.aload_n 0, 1) := by decide +kernel
theorem dX6_hitsNow_1 : decode cX6_hitsNow 1 = .ok (.getfield 50, 3) := by decide +kernel
theorem dX6_hitsNow_4 : decode cX6_hitsNow 4 = .ok (.aload_n 0, 1) := by decide +kernel
theorem dX6_hitsNow_5 : decode cX6_hitsNow 5 = .ok (.getfield 10, 3) := by decide +kernel
theorem dX6_hitsNow_8 : decode cX6_hitsNow 8 = .ok (.invokevirtual 152, 3) := by decide +kernel
theorem dX6_hitsNow_11 : decode cX6_hitsNow 11 = .ok (.aload_n 0, 1) := by decide +kernel
theorem dX6_hitsNow_12 : decode cX6_hitsNow 12 = .ok (.getfield 50, 3) := by decide +kernel
theorem dX6_hitsNow_15 : decode cX6_hitsNow 15 = .ok (.getfield 245, 3) := by decide +kernel
theorem dX6_hitsNow_18 : decode cX6_hitsNow 18 = .ok (.ireturn, 1) := by decide +kernel
theorem dX6_pointsOf_0 : decode cX6_pointsOf 0 = .ok (.aload_n 0, 1) := by decide +kernel
theorem dX6_pointsOf_1 : decode cX6_pointsOf 1 = .ok (.getfield 50, 3) := by decide +kernel
theorem dX6_pointsOf_4 : decode cX6_pointsOf 4 = .ok (.aload_n 1, 1) := by decide +kernel
theorem dX6_pointsOf_5 : decode cX6_pointsOf 5 = .ok (.invokevirtual 152, 3) := by decide +kernel
theorem dX6_pointsOf_8 : decode cX6_pointsOf 8 = .ok (.aload_n 0, 1) := by decide +kernel
theorem dX6_pointsOf_9 : decode cX6_pointsOf 9 = .ok (.getfield 50, 3) := by decide +kernel
theorem dX6_pointsOf_12 : decode cX6_pointsOf 12 = .ok (.getfield 248, 3) := by decide +kernel
theorem dX6_pointsOf_15 : decode cX6_pointsOf 15 = .ok (.ireturn, 1) := by decide +kernel
theorem dX6_mostPoints_0 : decode cX6_mostPoints 0 = .ok (.aload_n 0, 1) := by decide +kernel
theorem dX6_mostPoints_1 : decode cX6_mostPoints 1 = .ok (.getfield 50, 3) := by decide +kernel
theorem dX6_mostPoints_4 : decode cX6_mostPoints 4 = .ok (.aload_n 0, 1) := by decide +kernel
theorem dX6_mostPoints_5 : decode cX6_mostPoints 5 = .ok (.getfield 10, 3) := by decide +kernel
theorem dX6_mostPoints_8 : decode cX6_mostPoints 8 = .ok (.invokevirtual 251, 3) := by decide +kernel
theorem dX6_mostPoints_11 : decode cX6_mostPoints 11 = .ok (.aload_n 0, 1) := by decide +kernel
theorem dX6_mostPoints_12 : decode cX6_mostPoints 12 = .ok (.getfield 50, 3) := by decide +kernel
theorem dX6_mostPoints_15 : decode cX6_mostPoints 15 = .ok (.getfield 248, 3) := by decide +kernel
theorem dX6_mostPoints_18 : decode cX6_mostPoints 18 = .ok (.ireturn, 1) := by decide +kernel
theorem dX6_pointsIfShifted_0 : decode cX6_pointsIfShifted 0 = .ok (.aload_n 0, 1) := by decide +kernel
theorem dX6_pointsIfShifted_1 : decode cX6_pointsIfShifted 1 = .ok (.getfield 16, 3) := by decide +kernel
theorem dX6_pointsIfShifted_4 : decode cX6_pointsIfShifted 4 = .ok (.aload_n 0, 1) := by decide +kernel
theorem dX6_pointsIfShifted_5 : decode cX6_pointsIfShifted 5 = .ok (.getfield 10, 3) := by decide +kernel
theorem dX6_pointsIfShifted_8 : decode cX6_pointsIfShifted 8 = .ok (.iload_n 1, 1) := by decide +kernel
theorem dX6_pointsIfShifted_9 : decode cX6_pointsIfShifted 9 = .ok (.iload_n 2, 1) := by decide +kernel
theorem dX6_pointsIfShifted_10 : decode cX6_pointsIfShifted 10 = .ok (.invokevirtual 254, 3) := by decide +kernel
theorem dX6_pointsIfShifted_13 : decode cX6_pointsIfShifted 13 = .ok (.aload_n 0, 1) := by decide +kernel
theorem dX6_pointsIfShifted_14 : decode cX6_pointsIfShifted 14 = .ok (.getfield 50, 3) := by decide +kernel
theorem dX6_pointsIfShifted_17 : decode cX6_pointsIfShifted 17 = .ok (.aload_n 0, 1) := by decide +kernel
theorem dX6_pointsIfShifted_18 : decode cX6_pointsIfShifted 18 = .ok (.getfield 16, 3) := by decide +kernel
theorem dX6_pointsIfShifted_21 : decode cX6_pointsIfShifted 21 = .ok (.invokevirtual 152, 3) := by decide +kernel
theorem dX6_pointsIfShifted_24 : decode cX6_pointsIfShifted 24 = .ok (.aload_n 0, 1) := by decide +kernel
theorem dX6_pointsIfShifted_25 : decode cX6_pointsIfShifted 25 = .ok (.getfield 50, 3) := by decide +kernel
theorem dX6_pointsIfShifted_28 : decode cX6_pointsIfShifted 28 = .ok (.getfield 248, 3) := by decide +kernel
theorem dX6_pointsIfShifted_31 : decode cX6_pointsIfShifted 31 = .ok (.ireturn, 1) := by decide +kernel
theorem dL_cell_0 : decode cL_cell 0 = .ok (.iload_n 1, 1) := by decide +kernel
theorem dL_cell_1 : decode cL_cell 1 = .ok (.aload_n 0, 1) := by decide +kernel
theorem dL_cell_2 : decode cL_cell 2 = .ok (.arraylength, 1) := by decide +kernel
theorem dL_cell_3 : decode cL_cell 3 = .ok (.if_icmp .ge 9, 3) := by decide +kernel
theorem dL_cell_6 : decode cL_cell 6 = .ok (.aload_n 0, 1) := by decide +kernel
theorem dL_cell_7 : decode cL_cell 7 = .ok (.iload_n 1, 1) := by decide +kernel
theorem dL_cell_8 : decode cL_cell 8 = .ok (.iaload, 1) := by decide +kernel
theorem dL_cell_9 : decode cL_cell 9 = .ok (.goto 12, 3) := by decide +kernel
theorem dL_cell_12 : decode cL_cell 12 = .ok (.ldc 7, 2) := by decide +kernel
theorem dL_cell_14 : decode cL_cell 14 = .ok (.iload_n 1, 1) := by decide +kernel
theorem dL_cell_15 : decode cL_cell 15 = .ok (.iconst 5, 1) := by decide +kernel
theorem dL_cell_16 : decode cL_cell 16 = .ok (.iadd, 1) := by decide +kernel
theorem dL_cell_17 : decode cL_cell 17 = .ok (.imul, 1) := by decide +kernel
theorem dL_cell_18 : decode cL_cell 18 = .ok (.ldc 8, 2) := by decide +kernel
theorem dL_cell_20 : decode cL_cell 20 = .ok (.iadd, 1) := by decide +kernel
theorem dL_cell_21 : decode cL_cell 21 = .ok (.ireturn, 1) := by decide +kernel
theorem dL_low_0 : decode cL_low 0 = .ok (.iload_n 0, 1) := by decide +kernel
theorem dL_low_1 : decode cL_low 1 = .ok (.ldc 9, 2) := by decide +kernel
theorem dL_low_3 : decode cL_low 3 = .ok (.iand, 1) := by decide +kernel
theorem dL_low_4 : decode cL_low 4 = .ok (.iload_n 1, 1) := by decide +kernel
theorem dL_low_5 : decode cL_low 5 = .ok (.irem, 1) := by decide +kernel
theorem dL_low_6 : decode cL_low 6 = .ok (.ireturn, 1) := by decide +kernel
theorem dL_isSyllable_0 : decode cL_isSyllable 0 = .ok (.aload_n 0, 1) := by decide +kernel
theorem dL_isSyllable_1 : decode cL_isSyllable 1 = .ok (.iload_n 1, 1) := by decide +kernel
theorem dL_isSyllable_2 : decode cL_isSyllable 2 = .ok (.iconst 0, 1) := by decide +kernel
theorem dL_isSyllable_3 : decode cL_isSyllable 3 = .ok (.invokevirtual 10, 3) := by decide +kernel
theorem dL_isSyllable_6 : decode cL_isSyllable 6 = .ok (.istore_n 2, 1) := by decide +kernel
theorem dL_isSyllable_7 : decode cL_isSyllable 7 = .ok (.aload_n 0, 1) := by decide +kernel
theorem dL_isSyllable_8 : decode cL_isSyllable 8 = .ok (.iload_n 1, 1) := by decide +kernel
theorem dL_isSyllable_9 : decode cL_isSyllable 9 = .ok (.iconst 1, 1) := by decide +kernel
theorem dL_isSyllable_10 : decode cL_isSyllable 10 = .ok (.invokevirtual 10, 3) := by decide +kernel
theorem dL_isSyllable_13 : decode cL_isSyllable 13 = .ok (.istore_n 3, 1) := by decide +kernel
theorem dL_isSyllable_14 : decode cL_isSyllable 14 = .ok (.aload_n 0, 1) := by decide +kernel
theorem dL_isSyllable_15 : decode cL_isSyllable 15 = .ok (.iload_n 1, 1) := by decide +kernel
theorem dL_isSyllable_16 : decode cL_isSyllable 16 = .ok (.iconst 2, 1) := by decide +kernel
theorem dL_isSyllable_17 : decode cL_isSyllable 17 = .ok (.invokevirtual 10, 3) := by decide +kernel
theorem dL_isSyllable_20 : decode cL_isSyllable 20 = .ok (.istore 4, 2) := by decide +kernel
theorem dL_isSyllable_22 : decode cL_isSyllable 22 = .ok (.aload_n 0, 1) := by decide +kernel
theorem dL_isSyllable_23 : decode cL_isSyllable 23 = .ok (.iload_n 1, 1) := by decide +kernel
theorem dL_isSyllable_24 : decode cL_isSyllable 24 = .ok (.iconst 3, 1) := by decide +kernel
theorem dL_isSyllable_25 : decode cL_isSyllable 25 = .ok (.invokevirtual 10, 3) := by decide +kernel
theorem dL_isSyllable_28 : decode cL_isSyllable 28 = .ok (.istore 5, 2) := by decide +kernel
theorem dL_isSyllable_30 : decode cL_isSyllable 30 = .ok (.aload_n 0, 1) := by decide +kernel
theorem dL_isSyllable_31 : decode cL_isSyllable 31 = .ok (.iload_n 1, 1) := by decide +kernel
theorem dL_isSyllable_32 : decode cL_isSyllable 32 = .ok (.bipush 8, 2) := by decide +kernel
theorem dL_isSyllable_34 : decode cL_isSyllable 34 = .ok (.invokevirtual 10, 3) := by decide +kernel
theorem dL_isSyllable_37 : decode cL_isSyllable 37 = .ok (.istore 6, 2) := by decide +kernel
theorem dL_isSyllable_39 : decode cL_isSyllable 39 = .ok (.iconst 0, 1) := by decide +kernel
theorem dL_isSyllable_40 : decode cL_isSyllable 40 = .ok (.istore 7, 2) := by decide +kernel
theorem dL_isSyllable_42 : decode cL_isSyllable 42 = .ok (.iload_n 2, 1) := by decide +kernel
theorem dL_isSyllable_43 : decode cL_isSyllable 43 = .ok (.ifCond .lt 96, 3) := by decide +kernel
theorem dL_isSyllable_46 : decode cL_isSyllable 46 = .ok (.iload_n 2, 1) := by decide +kernel
theorem dL_isSyllable_47 : decode cL_isSyllable 47 = .ok (.iload_n 3, 1) := by decide +kernel
theorem dL_isSyllable_48 : decode cL_isSyllable 48 = .ok (.iadd, 1) := by decide +kernel
theorem dL_isSyllable_49 : decode cL_isSyllable 49 = .ok (.sipush 600, 3) := by decide +kernel
theorem dL_isSyllable_52 : decode cL_isSyllable 52 = .ok (.if_icmp .gt 87, 3) := by decide +kernel
theorem dL_isSyllable_55 : decode cL_isSyllable 55 = .ok (.iload_n 2, 1) := by decide +kernel
theorem dL_isSyllable_56 : decode cL_isSyllable 56 = .ok (.ifCond .eq 14, 3) := by decide +kernel
theorem dL_isSyllable_59 : decode cL_isSyllable 59 = .ok (.aload_n 0, 1) := by decide +kernel
theorem dL_isSyllable_60 : decode cL_isSyllable 60 = .ok (.iload_n 1, 1) := by decide +kernel
theorem dL_isSyllable_61 : decode cL_isSyllable 61 = .ok (.iload_n 2, 1) := by decide +kernel
theorem dL_isSyllable_62 : decode cL_isSyllable 62 = .ok (.iconst 1, 1) := by decide +kernel
theorem dL_isSyllable_63 : decode cL_isSyllable 63 = .ok (.isub, 1) := by decide +kernel
theorem dL_isSyllable_64 : decode cL_isSyllable 64 = .ok (.invokevirtual 16, 3) := by decide +kernel
theorem dL_isSyllable_67 : decode cL_isSyllable 67 = .ok (.ifCond .ne 72, 3) := by decide +kernel
theorem dL_isSyllable_70 : decode cL_isSyllable 70 = .ok (.aload_n 0, 1) := by decide +kernel
theorem dL_isSyllable_71 : decode cL_isSyllable 71 = .ok (.iload_n 1, 1) := by decide +kernel
theorem dL_isSyllable_72 : decode cL_isSyllable 72 = .ok (.iload_n 2, 1) := by decide +kernel
theorem dL_isSyllable_73 : decode cL_isSyllable 73 = .ok (.invokevirtual 16, 3) := by decide +kernel
theorem dL_isSyllable_76 : decode cL_isSyllable 76 = .ok (.iconst 1, 1) := by decide +kernel
theorem dL_isSyllable_77 : decode cL_isSyllable 77 = .ok (.if_icmp .ne 62, 3) := by decide +kernel
theorem dL_isSyllable_80 : decode cL_isSyllable 80 = .ok (.aload_n 0, 1) := by decide +kernel
theorem dL_isSyllable_81 : decode cL_isSyllable 81 = .ok (.iload_n 1, 1) := by decide +kernel
theorem dL_isSyllable_82 : decode cL_isSyllable 82 = .ok (.iload_n 2, 1) := by decide +kernel
theorem dL_isSyllable_83 : decode cL_isSyllable 83 = .ok (.iload_n 3, 1) := by decide +kernel
theorem dL_isSyllable_84 : decode cL_isSyllable 84 = .ok (.iadd, 1) := by decide +kernel
theorem dL_isSyllable_85 : decode cL_isSyllable 85 = .ok (.iconst 1, 1) := by decide +kernel
theorem dL_isSyllable_86 : decode cL_isSyllable 86 = .ok (.isub, 1) := by decide +kernel
theorem dL_isSyllable_87 : decode cL_isSyllable 87 = .ok (.invokevirtual 16, 3) := by decide +kernel
theorem dL_isSyllable_90 : decode cL_isSyllable 90 = .ok (.iload_n 3, 1) := by decide +kernel
theorem dL_isSyllable_91 : decode cL_isSyllable 91 = .ok (.if_icmp .ne 48, 3) := by decide +kernel
theorem dL_isSyllable_94 : decode cL_isSyllable 94 = .ok (.aload_n 0, 1) := by decide +kernel
theorem dL_isSyllable_95 : decode cL_isSyllable 95 = .ok (.iload_n 1, 1) := by decide +kernel
theorem dL_isSyllable_96 : decode cL_isSyllable 96 = .ok (.sipush 599, 3) := by decide +kernel
theorem dL_isSyllable_99 : decode cL_isSyllable 99 = .ok (.invokevirtual 16, 3) := by decide +kernel
theorem dL_isSyllable_102 : decode cL_isSyllable 102 = .ok (.iload_n 3, 1) := by decide +kernel
theorem dL_isSyllable_103 : decode cL_isSyllable 103 = .ok (.if_icmp .ne 36, 3) := by decide +kernel
theorem dL_isSyllable_106 : decode cL_isSyllable 106 = .ok (.aload_n 0, 1) := by decide +kernel
theorem dL_isSyllable_107 : decode cL_isSyllable 107 = .ok (.iload_n 2, 1) := by decide +kernel
theorem dL_isSyllable_108 : decode cL_isSyllable 108 = .ok (.invokevirtual 19, 3) := by decide +kernel
theorem dL_isSyllable_111 : decode cL_isSyllable 111 = .ok (.iload 4, 2) := by decide +kernel
theorem dL_isSyllable_113 : decode cL_isSyllable 113 = .ok (.if_icmp .ne 26, 3) := by decide +kernel
theorem dL_isSyllable_116 : decode cL_isSyllable 116 = .ok (.iload_n 3, 1) := by decide +kernel
theorem dL_isSyllable_117 : decode cL_isSyllable 117 = .ok (.iconst 1, 1) := by decide +kernel
theorem dL_isSyllable_118 : decode cL_isSyllable 118 = .ok (.if_icmp .eq 17, 3) := by decide +kernel
theorem dL_isSyllable_121 : decode cL_isSyllable 121 = .ok (.aload_n 0, 1) := by decide +kernel
theorem dL_isSyllable_122 : decode cL_isSyllable 122 = .ok (.iload_n 2, 1) := by decide +kernel
theorem dL_isSyllable_123 : decode cL_isSyllable 123 = .ok (.iload_n 3, 1) := by decide +kernel
theorem dL_isSyllable_124 : decode cL_isSyllable 124 = .ok (.iadd, 1) := by decide +kernel
theorem dL_isSyllable_125 : decode cL_isSyllable 125 = .ok (.iconst 1, 1) := by decide +kernel
theorem dL_isSyllable_126 : decode cL_isSyllable 126 = .ok (.isub, 1) := by decide +kernel
theorem dL_isSyllable_127 : decode cL_isSyllable 127 = .ok (.invokevirtual 19, 3) := by decide +kernel
theorem dL_isSyllable_130 : decode cL_isSyllable 130 = .ok (.iload 5, 2) := by decide +kernel
theorem dL_isSyllable_132 : decode cL_isSyllable 132 = .ok (.if_icmp .ne 7, 3) := by decide +kernel
theorem dL_isSyllable_135 : decode cL_isSyllable 135 = .ok (.iconst 1, 1) := by decide +kernel
theorem dL_isSyllable_136 : decode cL_isSyllable 136 = .ok (.goto 4, 3) := by decide +kernel
theorem dL_isSyllable_139 : decode cL_isSyllable 139 = .ok (.iconst 0, 1) := by decide +kernel
theorem dL_isSyllable_140 : decode cL_isSyllable 140 = .ok (.istore 8, 2) := by decide +kernel
theorem dL_isSyllable_142 : decode cL_isSyllable 142 = .ok (.iload_n 2, 1) := by decide +kernel
theorem dL_isSyllable_143 : decode cL_isSyllable 143 = .ok (.istore 9, 2) := by decide +kernel
theorem dL_isSyllable_145 : decode cL_isSyllable 145 = .ok (.iload 9, 2) := by decide +kernel
theorem dL_isSyllable_147 : decode cL_isSyllable 147 = .ok (.iload_n 2, 1) := by decide +kernel
theorem dL_isSyllable_148 : decode cL_isSyllable 148 = .ok (.iload_n 3, 1) := by decide +kernel
theorem dL_isSyllable_149 : decode cL_isSyllable 149 = .ok (.iadd, 1) := by decide +kernel
theorem dL_isSyllable_150 : decode cL_isSyllable 150 = .ok (.if_icmp .ge 171, 3) := by decide +kernel
theorem dL_isSyllable_153 : decode cL_isSyllable 153 = .ok (.iload 8, 2) := by decide +kernel
theorem dL_isSyllable_155 : decode cL_isSyllable 155 = .ok (.ifCond .eq 166, 3) := by decide +kernel
theorem dL_isSyllable_158 : decode cL_isSyllable 158 = .ok (.aload_n 0, 1) := by decide +kernel
theorem dL_isSyllable_159 : decode cL_isSyllable 159 = .ok (.iload 9, 2) := by decide +kernel
theorem dL_isSyllable_161 : decode cL_isSyllable 161 = .ok (.invokevirtual 19, 3) := by decide +kernel
theorem dL_isSyllable_164 : decode cL_isSyllable 164 = .ok (.istore 10, 2) := by decide +kernel
theorem dL_isSyllable_166 : decode cL_isSyllable 166 = .ok (.aload_n 0, 1) := by decide +kernel
theorem dL_isSyllable_167 : decode cL_isSyllable 167 = .ok (.iload 9, 2) := by decide +kernel
theorem dL_isSyllable_169 : decode cL_isSyllable 169 = .ok (.invokevirtual 23, 3) := by decide +kernel
theorem dL_isSyllable_172 : decode cL_isSyllable 172 = .ok (.iload 10, 2) := by decide +kernel
theorem dL_isSyllable_174 : decode cL_isSyllable 174 = .ok (.if_icmp .ge 15, 3) := by decide +kernel
theorem dL_isSyllable_177 : decode cL_isSyllable 177 = .ok (.iload 10, 2) := by decide +kernel
theorem dL_isSyllable_179 : decode cL_isSyllable 179 = .ok (.aload_n 0, 1) := by decide +kernel
theorem dL_isSyllable_180 : decode cL_isSyllable 180 = .ok (.iload 9, 2) := by decide +kernel
theorem dL_isSyllable_182 : decode cL_isSyllable 182 = .ok (.invokevirtual 23, 3) := by decide +kernel
theorem dL_isSyllable_185 : decode cL_isSyllable 185 = .ok (.isub, 1) := by decide +kernel
theorem dL_isSyllable_186 : decode cL_isSyllable 186 = .ok (.goto 12, 3) := by decide +kernel
theorem dL_isSyllable_189 : decode cL_isSyllable 189 = .ok (.aload_n 0, 1) := by decide +kernel
theorem dL_isSyllable_190 : decode cL_isSyllable 190 = .ok (.iload 9, 2) := by decide +kernel
theorem dL_isSyllable_192 : decode cL_isSyllable 192 = .ok (.invokevirtual 23, 3) := by decide +kernel
theorem dL_isSyllable_195 : decode cL_isSyllable 195 = .ok (.iload 10, 2) := by decide +kernel
theorem dL_isSyllable_197 : decode cL_isSyllable 197 = .ok (.isub, 1) := by decide +kernel
theorem dL_isSyllable_198 : decode cL_isSyllable 198 = .ok (.istore 11, 2) := by decide +kernel
theorem dL_isSyllable_200 : decode cL_isSyllable 200 = .ok (.aload_n 0, 1) := by decide +kernel
theorem dL_isSyllable_201 : decode cL_isSyllable 201 = .ok (.iconst 3, 1) := by decide +kernel
theorem dL_isSyllable_202 : decode cL_isSyllable 202 = .ok (.invokevirtual 26, 3) := by decide +kernel
theorem dL_isSyllable_205 : decode cL_isSyllable 205 = .ok (.ifCond .ne 8, 3) := by decide +kernel
theorem dL_isSyllable_208 : decode cL_isSyllable 208 = .ok (.iload 11, 2) := by decide +kernel
theorem dL_isSyllable_210 : decode cL_isSyllable 210 = .ok (.goto 29, 3) := by decide +kernel
theorem dL_isSyllable_213 : decode cL_isSyllable 213 = .ok (.iload 11, 2) := by decide +kernel
theorem dL_isSyllable_215 : decode cL_isSyllable 215 = .ok (.bipush 12, 2) := by decide +kernel
theorem dL_isSyllable_217 : decode cL_isSyllable 217 = .ok (.irem, 1) := by decide +kernel
theorem dL_isSyllable_218 : decode cL_isSyllable 218 = .ok (.bipush 6, 2) := by decide +kernel
theorem dL_isSyllable_220 : decode cL_isSyllable 220 = .ok (.if_icmp .le 14, 3) := by decide +kernel
theorem dL_isSyllable_223 : decode cL_isSyllable 223 = .ok (.bipush 12, 2) := by decide +kernel
theorem dL_isSyllable_225 : decode cL_isSyllable 225 = .ok (.iload 11, 2) := by decide +kernel
theorem dL_isSyllable_227 : decode cL_isSyllable 227 = .ok (.bipush 12, 2) := by decide +kernel
theorem dL_isSyllable_229 : decode cL_isSyllable 229 = .ok (.irem, 1) := by decide +kernel
theorem dL_isSyllable_230 : decode cL_isSyllable 230 = .ok (.isub, 1) := by decide +kernel
theorem dL_isSyllable_231 : decode cL_isSyllable 231 = .ok (.goto 8, 3) := by decide +kernel
theorem dL_isSyllable_234 : decode cL_isSyllable 234 = .ok (.iload 11, 2) := by decide +kernel
theorem dL_isSyllable_236 : decode cL_isSyllable 236 = .ok (.bipush 12, 2) := by decide +kernel
theorem dL_isSyllable_238 : decode cL_isSyllable 238 = .ok (.irem, 1) := by decide +kernel
theorem dL_isSyllable_239 : decode cL_isSyllable 239 = .ok (.istore 11, 2) := by decide +kernel
theorem dL_isSyllable_241 : decode cL_isSyllable 241 = .ok (.iload 7, 2) := by decide +kernel
theorem dL_isSyllable_243 : decode cL_isSyllable 243 = .ok (.aload_n 0, 1) := by decide +kernel
theorem dL_isSyllable_244 : decode cL_isSyllable 244 = .ok (.iload 9, 2) := by decide +kernel
theorem dL_isSyllable_246 : decode cL_isSyllable 246 = .ok (.invokevirtual 23, 3) := by decide +kernel
theorem dL_isSyllable_249 : decode cL_isSyllable 249 = .ok (.ifCond .lt 17, 3) := by decide +kernel
theorem dL_isSyllable_252 : decode cL_isSyllable 252 = .ok (.iload 11, 2) := by decide +kernel
theorem dL_isSyllable_254 : decode cL_isSyllable 254 = .ok (.aload_n 0, 1) := by decide +kernel
theorem dL_isSyllable_255 : decode cL_isSyllable 255 = .ok (.iconst 1, 1) := by decide +kernel
theorem dL_isSyllable_256 : decode cL_isSyllable 256 = .ok (.invokevirtual 26, 3) := by decide +kernel
theorem dL_isSyllable_259 : decode cL_isSyllable 259 = .ok (.if_icmp .gt 7, 3) := by decide +kernel
theorem dL_isSyllable_262 : decode cL_isSyllable 262 = .ok (.iconst 1, 1) := by decide +kernel
theorem dL_isSyllable_263 : decode cL_isSyllable 263 = .ok (.goto 4, 3) := by decide +kernel
theorem dL_isSyllable_266 : decode cL_isSyllable 266 = .ok (.iconst 0, 1) := by decide +kernel
theorem dL_isSyllable_267 : decode cL_isSyllable 267 = .ok (.iadd, 1) := by decide +kernel
theorem dL_isSyllable_268 : decode cL_isSyllable 268 = .ok (.istore 7, 2) := by decide +kernel
theorem dL_isSyllable_270 : decode cL_isSyllable 270 = .ok (.iload 10, 2) := by decide +kernel
theorem dL_isSyllable_272 : decode cL_isSyllable 272 = .ok (.iload 4, 2) := by decide +kernel
theorem dL_isSyllable_274 : decode cL_isSyllable 274 = .ok (.iload 5, 2) := by decide +kernel
theorem dL_isSyllable_276 : decode cL_isSyllable 276 = .ok (.if_icmp .ge 8, 3) := by decide +kernel
theorem dL_isSyllable_279 : decode cL_isSyllable 279 = .ok (.iload 4, 2) := by decide +kernel
theorem dL_isSyllable_281 : decode cL_isSyllable 281 = .ok (.goto 5, 3) := by decide +kernel
theorem dL_isSyllable_284 : decode cL_isSyllable 284 = .ok (.iload 5, 2) := by decide +kernel
theorem dL_isSyllable_286 : decode cL_isSyllable 286 = .ok (.if_icmp .lt 26, 3) := by decide +kernel
theorem dL_isSyllable_289 : decode cL_isSyllable 289 = .ok (.iload 10, 2) := by decide +kernel
theorem dL_isSyllable_291 : decode cL_isSyllable 291 = .ok (.iload 4, 2) := by decide +kernel
theorem dL_isSyllable_293 : decode cL_isSyllable 293 = .ok (.iload 5, 2) := by decide +kernel
theorem dL_isSyllable_295 : decode cL_isSyllable 295 = .ok (.if_icmp .ge 8, 3) := by decide +kernel
theorem dL_isSyllable_298 : decode cL_isSyllable 298 = .ok (.iload 5, 2) := by decide +kernel
theorem dL_isSyllable_300 : decode cL_isSyllable 300 = .ok (.goto 5, 3) := by decide +kernel
theorem dL_isSyllable_303 : decode cL_isSyllable 303 = .ok (.iload 4, 2) := by decide +kernel
theorem dL_isSyllable_305 : decode cL_isSyllable 305 = .ok (.if_icmp .gt 7, 3) := by decide +kernel
theorem dL_isSyllable_308 : decode cL_isSyllable 308 = .ok (.iconst 1, 1) := by decide +kernel
theorem dL_isSyllable_309 : decode cL_isSyllable 309 = .ok (.goto 4, 3) := by decide +kernel
theorem dL_isSyllable_312 : decode cL_isSyllable 312 = .ok (.iconst 0, 1) := by decide +kernel
theorem dL_isSyllable_313 : decode cL_isSyllable 313 = .ok (.istore 8, 2) := by decide +kernel
theorem dL_isSyllable_315 : decode cL_isSyllable 315 = .ok (.iinc 9 1, 3) := by decide +kernel
theorem dL_isSyllable_318 : decode cL_isSyllable 318 = .ok (.goto (-173), 3) := by decide +kernel
theorem dL_isSyllable_321 : decode cL_isSyllable 321 = .ok (.iload 8, 2) := by decide +kernel
theorem dL_isSyllable_323 : decode cL_isSyllable 323 = .ok (.ifCond .eq 98, 3) := by decide +kernel
theorem dL_isSyllable_326 : decode cL_isSyllable 326 = .ok (.aload_n 0, 1) := by decide +kernel
theorem dL_isSyllable_327 : decode cL_isSyllable 327 = .ok (.iload_n 1, 1) := by decide +kernel
theorem dL_isSyllable_328 : decode cL_isSyllable 328 = .ok (.bipush 6, 2) := by decide +kernel
theorem dL_isSyllable_330 : decode cL_isSyllable 330 = .ok (.invokevirtual 10, 3) := by decide +kernel
theorem dL_isSyllable_333 : decode cL_isSyllable 333 = .ok (.iload 7, 2) := by decide +kernel
theorem dL_isSyllable_335 : decode cL_isSyllable 335 = .ok (.if_icmp .ne 86, 3) := by decide +kernel
theorem dL_isSyllable_338 : decode cL_isSyllable 338 = .ok (.aload_n 0, 1) := by decide +kernel
theorem dL_isSyllable_339 : decode cL_isSyllable 339 = .ok (.iload_n 1, 1) := by decide +kernel
theorem dL_isSyllable_340 : decode cL_isSyllable 340 = .ok (.bipush 7, 2) := by decide +kernel
theorem dL_isSyllable_342 : decode cL_isSyllable 342 = .ok (.invokevirtual 10, 3) := by decide +kernel
theorem dL_isSyllable_345 : decode cL_isSyllable 345 = .ok (.iload 7, 2) := by decide +kernel
theorem dL_isSyllable_347 : decode cL_isSyllable 347 = .ok (.bipush 100, 2) := by decide +kernel
theorem dL_isSyllable_349 : decode cL_isSyllable 349 = .ok (.imul, 1) := by decide +kernel
theorem dL_isSyllable_350 : decode cL_isSyllable 350 = .ok (.iload_n 3, 1) := by decide +kernel
theorem dL_isSyllable_351 : decode cL_isSyllable 351 = .ok (.idiv, 1) := by decide +kernel
theorem dL_isSyllable_352 : decode cL_isSyllable 352 = .ok (.if_icmp .ne 69, 3) := by decide +kernel
theorem dL_isSyllable_355 : decode cL_isSyllable 355 = .ok (.iload 6, 2) := by decide +kernel
theorem dL_isSyllable_357 : decode cL_isSyllable 357 = .ok (.bipush (-5), 2) := by decide +kernel
theorem dL_isSyllable_359 : decode cL_isSyllable 359 = .ok (.if_icmp .eq 58, 3) := by decide +kernel
theorem dL_isSyllable_362 : decode cL_isSyllable 362 = .ok (.iload 6, 2) := by decide +kernel
theorem dL_isSyllable_364 : decode cL_isSyllable 364 = .ok (.iload_n 2, 1) := by decide +kernel
theorem dL_isSyllable_365 : decode cL_isSyllable 365 = .ok (.isub, 1) := by decide +kernel
theorem dL_isSyllable_366 : decode cL_isSyllable 366 = .ok (.aload_n 0, 1) := by decide +kernel
theorem dL_isSyllable_367 : decode cL_isSyllable 367 = .ok (.iconst 2, 1) := by decide +kernel
theorem dL_isSyllable_368 : decode cL_isSyllable 368 = .ok (.invokevirtual 26, 3) := by decide +kernel
theorem dL_isSyllable_371 : decode cL_isSyllable 371 = .ok (.if_icmp .gt 50, 3) := by decide +kernel
theorem dL_isSyllable_374 : decode cL_isSyllable 374 = .ok (.iload_n 2, 1) := by decide +kernel
theorem dL_isSyllable_375 : decode cL_isSyllable 375 = .ok (.iload 6, 2) := by decide +kernel
theorem dL_isSyllable_377 : decode cL_isSyllable 377 = .ok (.isub, 1) := by decide +kernel
theorem dL_isSyllable_378 : decode cL_isSyllable 378 = .ok (.aload_n 0, 1) := by decide +kernel
theorem dL_isSyllable_379 : decode cL_isSyllable 379 = .ok (.iconst 2, 1) := by decide +kernel
theorem dL_isSyllable_380 : decode cL_isSyllable 380 = .ok (.invokevirtual 26, 3) := by decide +kernel
theorem dL_isSyllable_383 : decode cL_isSyllable 383 = .ok (.if_icmp .gt 38, 3) := by decide +kernel
theorem dL_isSyllable_386 : decode cL_isSyllable 386 = .ok (.aload_n 0, 1) := by decide +kernel
theorem dL_isSyllable_387 : decode cL_isSyllable 387 = .ok (.iload 6, 2) := by decide +kernel
theorem dL_isSyllable_389 : decode cL_isSyllable 389 = .ok (.invokevirtual 23, 3) := by decide +kernel
theorem dL_isSyllable_392 : decode cL_isSyllable 392 = .ok (.ifCond .lt 29, 3) := by decide +kernel
theorem dL_isSyllable_395 : decode cL_isSyllable 395 = .ok (.iload 6, 2) := by decide +kernel
theorem dL_isSyllable_397 : decode cL_isSyllable 397 = .ok (.ifCond .eq 20, 3) := by decide +kernel
theorem dL_isSyllable_400 : decode cL_isSyllable 400 = .ok (.aload_n 0, 1) := by decide +kernel
theorem dL_isSyllable_401 : decode cL_isSyllable 401 = .ok (.iload 6, 2) := by decide +kernel
theorem dL_isSyllable_403 : decode cL_isSyllable 403 = .ok (.iconst 1, 1) := by decide +kernel
theorem dL_isSyllable_404 : decode cL_isSyllable 404 = .ok (.isub, 1) := by decide +kernel
theorem dL_isSyllable_405 : decode cL_isSyllable 405 = .ok (.invokevirtual 23, 3) := by decide +kernel
theorem dL_isSyllable_408 : decode cL_isSyllable 408 = .ok (.aload_n 0, 1) := by decide +kernel
theorem dL_isSyllable_409 : decode cL_isSyllable 409 = .ok (.iload 6, 2) := by decide +kernel
theorem dL_isSyllable_411 : decode cL_isSyllable 411 = .ok (.invokevirtual 23, 3) := by decide +kernel
theorem dL_isSyllable_414 : decode cL_isSyllable 414 = .ok (.if_icmp .eq 7, 3) := by decide +kernel
theorem dL_isSyllable_417 : decode cL_isSyllable 417 = .ok (.iconst 1, 1) := by decide +kernel
theorem dL_isSyllable_418 : decode cL_isSyllable 418 = .ok (.goto 4, 3) := by decide +kernel
theorem dL_isSyllable_421 : decode cL_isSyllable 421 = .ok (.iconst 0, 1) := by decide +kernel
theorem dL_isSyllable_422 : decode cL_isSyllable 422 = .ok (.istore 8, 2) := by decide +kernel
theorem dL_isSyllable_424 : decode cL_isSyllable 424 = .ok (.iload 8, 2) := by decide +kernel
theorem dL_isSyllable_426 : decode cL_isSyllable 426 = .ok (.ifCond .eq 95, 3) := by decide +kernel
theorem dL_isSyllable_429 : decode cL_isSyllable 429 = .ok (.aload_n 0, 1) := by decide +kernel
theorem dL_isSyllable_430 : decode cL_isSyllable 430 = .ok (.iload_n 1, 1) := by decide +kernel
theorem dL_isSyllable_431 : decode cL_isSyllable 431 = .ok (.bipush 9, 2) := by decide +kernel
theorem dL_isSyllable_433 : decode cL_isSyllable 433 = .ok (.invokevirtual 10, 3) := by decide +kernel
theorem dL_isSyllable_436 : decode cL_isSyllable 436 = .ok (.ifCond .ne 26, 3) := by decide +kernel
theorem dL_isSyllable_439 : decode cL_isSyllable 439 = .ok (.iload 6, 2) := by decide +kernel
theorem dL_isSyllable_441 : decode cL_isSyllable 441 = .ok (.ifCond .lt 80, 3) := by decide +kernel
theorem dL_isSyllable_444 : decode cL_isSyllable 444 = .ok (.aload_n 0, 1) := by decide +kernel
theorem dL_isSyllable_445 : decode cL_isSyllable 445 = .ok (.iload_n 1, 1) := by decide +kernel
theorem dL_isSyllable_446 : decode cL_isSyllable 446 = .ok (.bipush 7, 2) := by decide +kernel
theorem dL_isSyllable_448 : decode cL_isSyllable 448 = .ok (.invokevirtual 10, 3) := by decide +kernel
theorem dL_isSyllable_451 : decode cL_isSyllable 451 = .ok (.aload_n 0, 1) := by decide +kernel
theorem dL_isSyllable_452 : decode cL_isSyllable 452 = .ok (.iconst 4, 1) := by decide +kernel
theorem dL_isSyllable_453 : decode cL_isSyllable 453 = .ok (.invokevirtual 26, 3) := by decide +kernel
theorem dL_isSyllable_456 : decode cL_isSyllable 456 = .ok (.if_icmp .lt 65, 3) := by decide +kernel
theorem dL_isSyllable_459 : decode cL_isSyllable 459 = .ok (.goto 13, 3) := by decide +kernel
theorem dL_isSyllable_462 : decode cL_isSyllable 462 = .ok (.aload_n 0, 1) := by decide +kernel
theorem dL_isSyllable_463 : decode cL_isSyllable 463 = .ok (.iload_n 1, 1) := by decide +kernel
theorem dL_isSyllable_464 : decode cL_isSyllable 464 = .ok (.bipush 10, 2) := by decide +kernel
theorem dL_isSyllable_466 : decode cL_isSyllable 466 = .ok (.invokevirtual 10, 3) := by decide +kernel
theorem dL_isSyllable_469 : decode cL_isSyllable 469 = .ok (.ifCond .ne 52, 3) := by decide +kernel
theorem dL_isSyllable_472 : decode cL_isSyllable 472 = .ok (.aload_n 0, 1) := by decide +kernel
theorem dL_isSyllable_473 : decode cL_isSyllable 473 = .ok (.iload_n 1, 1) := by decide +kernel
theorem dL_isSyllable_474 : decode cL_isSyllable 474 = .ok (.bipush 9, 2) := by decide +kernel
theorem dL_isSyllable_476 : decode cL_isSyllable 476 = .ok (.invokevirtual 10, 3) := by decide +kernel
theorem dL_isSyllable_479 : decode cL_isSyllable 479 = .ok (.ifCond .lt 42, 3) := by decide +kernel
theorem dL_isSyllable_482 : decode cL_isSyllable 482 = .ok (.aload_n 0, 1) := by decide +kernel
theorem dL_isSyllable_483 : decode cL_isSyllable 483 = .ok (.iload_n 1, 1) := by decide +kernel
theorem dL_isSyllable_484 : decode cL_isSyllable 484 = .ok (.bipush 9, 2) := by decide +kernel
theorem dL_isSyllable_486 : decode cL_isSyllable 486 = .ok (.invokevirtual 10, 3) := by decide +kernel
theorem dL_isSyllable_489 : decode cL_isSyllable 489 = .ok (.iconst 4, 1) := by decide +kernel
theorem dL_isSyllable_490 : decode cL_isSyllable 490 = .ok (.if_icmp .gt 31, 3) := by decide +kernel
theorem dL_isSyllable_493 : decode cL_isSyllable 493 = .ok (.aload_n 0, 1) := by decide +kernel
theorem dL_isSyllable_494 : decode cL_isSyllable 494 = .ok (.iload_n 1, 1) := by decide +kernel
theorem dL_isSyllable_495 : decode cL_isSyllable 495 = .ok (.iconst 5, 1) := by decide +kernel
theorem dL_isSyllable_496 : decode cL_isSyllable 496 = .ok (.invokevirtual 10, 3) := by decide +kernel
theorem dL_isSyllable_499 : decode cL_isSyllable 499 = .ok (.iload_n 3, 1) := by decide +kernel
theorem dL_isSyllable_500 : decode cL_isSyllable 500 = .ok (.iconst 2, 1) := by decide +kernel
theorem dL_isSyllable_501 : decode cL_isSyllable 501 = .ok (.idiv, 1) := by decide +kernel
theorem dL_isSyllable_502 : decode cL_isSyllable 502 = .ok (.if_icmp .gt 19, 3) := by decide +kernel
theorem dL_isSyllable_505 : decode cL_isSyllable 505 = .ok (.aload_n 0, 1) := by decide +kernel
theorem dL_isSyllable_506 : decode cL_isSyllable 506 = .ok (.iload_n 1, 1) := by decide +kernel
theorem dL_isSyllable_507 : decode cL_isSyllable 507 = .ok (.bipush 11, 2) := by decide +kernel
theorem dL_isSyllable_509 : decode cL_isSyllable 509 = .ok (.invokevirtual 10, 3) := by decide +kernel
theorem dL_isSyllable_512 : decode cL_isSyllable 512 = .ok (.bipush 10, 2) := by decide +kernel
theorem dL_isSyllable_514 : decode cL_isSyllable 514 = .ok (.if_icmp .gt 7, 3) := by decide +kernel
theorem dL_isSyllable_517 : decode cL_isSyllable 517 = .ok (.iconst 1, 1) := by decide +kernel
theorem dL_isSyllable_518 : decode cL_isSyllable 518 = .ok (.goto 4, 3) := by decide +kernel
theorem dL_isSyllable_521 : decode cL_isSyllable 521 = .ok (.iconst 0, 1) := by decide +kernel
theorem dL_isSyllable_522 : decode cL_isSyllable 522 = .ok (.ireturn, 1) := by decide +kernel
theorem dL_holds_0 : decode cL_holds 0 = .ok (.aload_n 0, 1) := by decide +kernel
theorem dL_holds_1 : decode cL_holds 1 = .ok (.iconst 5, 1) := by decide +kernel
theorem dL_holds_2 : decode cL_holds 2 = .ok (.invokevirtual 26, 3) := by decide +kernel
theorem dL_holds_5 : decode cL_holds 5 = .ok (.istore_n 1, 1) := by decide +kernel
theorem dL_holds_6 : decode cL_holds 6 = .ok (.iconst 0, 1) := by decide +kernel
theorem dL_holds_7 : decode cL_holds 7 = .ok (.istore_n 2, 1) := by decide +kernel
theorem dL_holds_8 : decode cL_holds 8 = .ok (.iconst 0, 1) := by decide +kernel
theorem dL_holds_9 : decode cL_holds 9 = .ok (.istore_n 3, 1) := by decide +kernel
theorem dL_holds_10 : decode cL_holds 10 = .ok (.iconst 0, 1) := by decide +kernel
theorem dL_holds_11 : decode cL_holds 11 = .ok (.istore 4, 2) := by decide +kernel
theorem dL_holds_13 : decode cL_holds 13 = .ok (.iconst 0, 1) := by decide +kernel
theorem dL_holds_14 : decode cL_holds 14 = .ok (.istore 5, 2) := by decide +kernel
theorem dL_holds_16 : decode cL_holds 16 = .ok (.iconst 0, 1) := by decide +kernel
theorem dL_holds_17 : decode cL_holds 17 = .ok (.istore 6, 2) := by decide +kernel
theorem dL_holds_19 : decode cL_holds 19 = .ok (.iload 6, 2) := by decide +kernel
theorem dL_holds_21 : decode cL_holds 21 = .ok (.iload_n 1, 1) := by decide +kernel
theorem dL_holds_22 : decode cL_holds 22 = .ok (.if_icmp .ge 199, 3) := by decide +kernel
theorem dL_holds_25 : decode cL_holds 25 = .ok (.aload_n 0, 1) := by decide +kernel
theorem dL_holds_26 : decode cL_holds 26 = .ok (.iload 6, 2) := by decide +kernel
theorem dL_holds_28 : decode cL_holds 28 = .ok (.iconst 0, 1) := by decide +kernel
theorem dL_holds_29 : decode cL_holds 29 = .ok (.invokevirtual 10, 3) := by decide +kernel
theorem dL_holds_32 : decode cL_holds 32 = .ok (.iload_n 2, 1) := by decide +kernel
theorem dL_holds_33 : decode cL_holds 33 = .ok (.if_icmp .lt 12, 3) := by decide +kernel
theorem dL_holds_36 : decode cL_holds 36 = .ok (.aload_n 0, 1) := by decide +kernel
theorem dL_holds_37 : decode cL_holds 37 = .ok (.iload 6, 2) := by decide +kernel
theorem dL_holds_39 : decode cL_holds 39 = .ok (.invokestatic 29, 3) := by decide +kernel
theorem dL_holds_42 : decode cL_holds 42 = .ok (.ifCond .ne 5, 3) := by decide +kernel
theorem dL_holds_45 : decode cL_holds 45 = .ok (.iconst 0, 1) := by decide +kernel
theorem dL_holds_46 : decode cL_holds 46 = .ok (.ireturn, 1) := by decide +kernel
theorem dL_holds_47 : decode cL_holds 47 = .ok (.aload_n 0, 1) := by decide +kernel
theorem dL_holds_48 : decode cL_holds 48 = .ok (.iload 6, 2) := by decide +kernel
theorem dL_holds_50 : decode cL_holds 50 = .ok (.iconst 0, 1) := by decide +kernel
theorem dL_holds_51 : decode cL_holds 51 = .ok (.invokevirtual 10, 3) := by decide +kernel
theorem dL_holds_54 : decode cL_holds 54 = .ok (.aload_n 0, 1) := by decide +kernel
theorem dL_holds_55 : decode cL_holds 55 = .ok (.iload 6, 2) := by decide +kernel
theorem dL_holds_57 : decode cL_holds 57 = .ok (.iconst 1, 1) := by decide +kernel
theorem dL_holds_58 : decode cL_holds 58 = .ok (.invokevirtual 10, 3) := by decide +kernel
theorem dL_holds_61 : decode cL_holds 61 = .ok (.iadd, 1) := by decide +kernel
theorem dL_holds_62 : decode cL_holds 62 = .ok (.istore_n 2, 1) := by decide +kernel
theorem dL_holds_63 : decode cL_holds 63 = .ok (.iload_n 3, 1) := by decide +kernel
theorem dL_holds_64 : decode cL_holds 64 = .ok (.aload_n 0, 1) := by decide +kernel
theorem dL_holds_65 : decode cL_holds 65 = .ok (.iload 6, 2) := by decide +kernel
theorem dL_holds_67 : decode cL_holds 67 = .ok (.bipush 9, 2) := by decide +kernel
theorem dL_holds_69 : decode cL_holds 69 = .ok (.invokevirtual 10, 3) := by decide +kernel
theorem dL_holds_72 : decode cL_holds 72 = .ok (.ifCond .ne 7, 3) := by decide +kernel
theorem dL_holds_75 : decode cL_holds 75 = .ok (.iconst 1, 1) := by decide +kernel
theorem dL_holds_76 : decode cL_holds 76 = .ok (.goto 4, 3) := by decide +kernel
theorem dL_holds_79 : decode cL_holds 79 = .ok (.iconst 0, 1) := by decide +kernel
theorem dL_holds_80 : decode cL_holds 80 = .ok (.iadd, 1) := by decide +kernel
theorem dL_holds_81 : decode cL_holds 81 = .ok (.istore_n 3, 1) := by decide +kernel
theorem dL_holds_82 : decode cL_holds 82 = .ok (.iload 6, 2) := by decide +kernel
theorem dL_holds_84 : decode cL_holds 84 = .ok (.ifCond .eq 22, 3) := by decide +kernel
theorem dL_holds_87 : decode cL_holds 87 = .ok (.aload_n 0, 1) := by decide +kernel
theorem dL_holds_88 : decode cL_holds 88 = .ok (.iload 6, 2) := by decide +kernel
theorem dL_holds_90 : decode cL_holds 90 = .ok (.iconst 4, 1) := by decide +kernel
theorem dL_holds_91 : decode cL_holds 91 = .ok (.invokevirtual 10, 3) := by decide +kernel
theorem dL_holds_94 : decode cL_holds 94 = .ok (.aload_n 0, 1) := by decide +kernel
theorem dL_holds_95 : decode cL_holds 95 = .ok (.iload 6, 2) := by decide +kernel
theorem dL_holds_97 : decode cL_holds 97 = .ok (.iconst 1, 1) := by decide +kernel
theorem dL_holds_98 : decode cL_holds 98 = .ok (.isub, 1) := by decide +kernel
theorem dL_holds_99 : decode cL_holds 99 = .ok (.iconst 4, 1) := by decide +kernel
theorem dL_holds_100 : decode cL_holds 100 = .ok (.invokevirtual 10, 3) := by decide +kernel
theorem dL_holds_103 : decode cL_holds 103 = .ok (.if_icmp .eq 7, 3) := by decide +kernel
theorem dL_holds_106 : decode cL_holds 106 = .ok (.iconst 1, 1) := by decide +kernel
theorem dL_holds_107 : decode cL_holds 107 = .ok (.goto 4, 3) := by decide +kernel
theorem dL_holds_110 : decode cL_holds 110 = .ok (.iconst 0, 1) := by decide +kernel
theorem dL_holds_111 : decode cL_holds 111 = .ok (.istore 7, 2) := by decide +kernel
theorem dL_holds_113 : decode cL_holds 113 = .ok (.iload 7, 2) := by decide +kernel
theorem dL_holds_115 : decode cL_holds 115 = .ok (.ifCond .ne 16, 3) := by decide +kernel
theorem dL_holds_118 : decode cL_holds 118 = .ok (.aload_n 0, 1) := by decide +kernel
theorem dL_holds_119 : decode cL_holds 119 = .ok (.iload 6, 2) := by decide +kernel
theorem dL_holds_121 : decode cL_holds 121 = .ok (.iconst 1, 1) := by decide +kernel
theorem dL_holds_122 : decode cL_holds 122 = .ok (.isub, 1) := by decide +kernel
theorem dL_holds_123 : decode cL_holds 123 = .ok (.bipush 9, 2) := by decide +kernel
theorem dL_holds_125 : decode cL_holds 125 = .ok (.invokevirtual 10, 3) := by decide +kernel
theorem dL_holds_128 : decode cL_holds 128 = .ok (.ifCond .le 7, 3) := by decide +kernel
theorem dL_holds_131 : decode cL_holds 131 = .ok (.iconst 0, 1) := by decide +kernel
theorem dL_holds_132 : decode cL_holds 132 = .ok (.goto 15, 3) := by decide +kernel
theorem dL_holds_135 : decode cL_holds 135 = .ok (.aload_n 0, 1) := by decide +kernel
theorem dL_holds_136 : decode cL_holds 136 = .ok (.iload 6, 2) := by decide +kernel
theorem dL_holds_138 : decode cL_holds 138 = .ok (.iconst 1, 1) := by decide +kernel
theorem dL_holds_139 : decode cL_holds 139 = .ok (.isub, 1) := by decide +kernel
theorem dL_holds_140 : decode cL_holds 140 = .ok (.bipush 11, 2) := by decide +kernel
theorem dL_holds_142 : decode cL_holds 142 = .ok (.invokevirtual 10, 3) := by decide +kernel
theorem dL_holds_145 : decode cL_holds 145 = .ok (.iconst 1, 1) := by decide +kernel
theorem dL_holds_146 : decode cL_holds 146 = .ok (.iadd, 1) := by decide +kernel
theorem dL_holds_147 : decode cL_holds 147 = .ok (.istore 8, 2) := by decide +kernel
theorem dL_holds_149 : decode cL_holds 149 = .ok (.aload_n 0, 1) := by decide +kernel
theorem dL_holds_150 : decode cL_holds 150 = .ok (.iload 6, 2) := by decide +kernel
theorem dL_holds_152 : decode cL_holds 152 = .ok (.bipush 11, 2) := by decide +kernel
theorem dL_holds_154 : decode cL_holds 154 = .ok (.invokevirtual 10, 3) := by decide +kernel
theorem dL_holds_157 : decode cL_holds 157 = .ok (.iload 8, 2) := by decide +kernel
theorem dL_holds_159 : decode cL_holds 159 = .ok (.bipush 10, 2) := by decide +kernel
theorem dL_holds_161 : decode cL_holds 161 = .ok (.if_icmp .le 8, 3) := by decide +kernel
theorem dL_holds_164 : decode cL_holds 164 = .ok (.bipush 10, 2) := by decide +kernel
theorem dL_holds_166 : decode cL_holds 166 = .ok (.goto 5, 3) := by decide +kernel
theorem dL_holds_169 : decode cL_holds 169 = .ok (.iload 8, 2) := by decide +kernel
theorem dL_holds_171 : decode cL_holds 171 = .ok (.if_icmp .ne 42, 3) := by decide +kernel
theorem dL_holds_174 : decode cL_holds 174 = .ok (.aload_n 0, 1) := by decide +kernel
theorem dL_holds_175 : decode cL_holds 175 = .ok (.iload 6, 2) := by decide +kernel
theorem dL_holds_177 : decode cL_holds 177 = .ok (.iconst 4, 1) := by decide +kernel
theorem dL_holds_178 : decode cL_holds 178 = .ok (.invokevirtual 10, 3) := by decide +kernel
theorem dL_holds_181 : decode cL_holds 181 = .ok (.iload 6, 2) := by decide +kernel
theorem dL_holds_183 : decode cL_holds 183 = .ok (.ifCond .ne 7, 3) := by decide +kernel
theorem dL_holds_186 : decode cL_holds 186 = .ok (.iconst 0, 1) := by decide +kernel
theorem dL_holds_187 : decode cL_holds 187 = .ok (.goto 23, 3) := by decide +kernel
theorem dL_holds_190 : decode cL_holds 190 = .ok (.aload_n 0, 1) := by decide +kernel
theorem dL_holds_191 : decode cL_holds 191 = .ok (.iload 6, 2) := by decide +kernel
theorem dL_holds_193 : decode cL_holds 193 = .ok (.iconst 1, 1) := by decide +kernel
theorem dL_holds_194 : decode cL_holds 194 = .ok (.isub, 1) := by decide +kernel
theorem dL_holds_195 : decode cL_holds 195 = .ok (.iconst 4, 1) := by decide +kernel
theorem dL_holds_196 : decode cL_holds 196 = .ok (.invokevirtual 10, 3) := by decide +kernel
theorem dL_holds_199 : decode cL_holds 199 = .ok (.iload 7, 2) := by decide +kernel
theorem dL_holds_201 : decode cL_holds 201 = .ok (.ifCond .eq 7, 3) := by decide +kernel
theorem dL_holds_204 : decode cL_holds 204 = .ok (.iconst 1, 1) := by decide +kernel
theorem dL_holds_205 : decode cL_holds 205 = .ok (.goto 4, 3) := by decide +kernel
theorem dL_holds_208 : decode cL_holds 208 = .ok (.iconst 0, 1) := by decide +kernel
theorem dL_holds_209 : decode cL_holds 209 = .ok (.iadd, 1) := by decide +kernel
theorem dL_holds_210 : decode cL_holds 210 = .ok (.if_icmp .eq 5, 3) := by decide +kernel
theorem dL_holds_213 : decode cL_holds 213 = .ok (.iconst 0, 1) := by decide +kernel
theorem dL_holds_214 : decode cL_holds 214 = .ok (.ireturn, 1) := by decide +kernel
theorem dL_holds_215 : decode cL_holds 215 = .ok (.iinc 6 1, 3) := by decide +kernel
theorem dL_holds_218 : decode cL_holds 218 = .ok (.goto (-199), 3) := by decide +kernel
theorem dL_holds_221 : decode cL_holds 221 = .ok (.iconst 0, 1) := by decide +kernel
theorem dL_holds_222 : decode cL_holds 222 = .ok (.istore 6, 2) := by decide +kernel
theorem dL_holds_224 : decode cL_holds 224 = .ok (.iload 6, 2) := by decide +kernel
theorem dL_holds_226 : decode cL_holds 226 = .ok (.sipush 600, 3) := by decide +kernel
theorem dL_holds_229 : decode cL_holds 229 = .ok (.if_icmp .ge 69, 3) := by decide +kernel
theorem dL_holds_232 : decode cL_holds 232 = .ok (.iload 4, 2) := by decide +kernel
theorem dL_holds_234 : decode cL_holds 234 = .ok (.aload_n 0, 1) := by decide +kernel
theorem dL_holds_235 : decode cL_holds 235 = .ok (.iload 6, 2) := by decide +kernel
theorem dL_holds_237 : decode cL_holds 237 = .ok (.invokevirtual 23, 3) := by decide +kernel
theorem dL_holds_240 : decode cL_holds 240 = .ok (.ifCond .ge 7, 3) := by decide +kernel
theorem dL_holds_243 : decode cL_holds 243 = .ok (.iconst 0, 1) := by decide +kernel
theorem dL_holds_244 : decode cL_holds 244 = .ok (.goto 4, 3) := by decide +kernel
theorem dL_holds_247 : decode cL_holds 247 = .ok (.iconst 1, 1) := by decide +kernel
theorem dL_holds_248 : decode cL_holds 248 = .ok (.iadd, 1) := by decide +kernel
theorem dL_holds_249 : decode cL_holds 249 = .ok (.istore 4, 2) := by decide +kernel
theorem dL_holds_251 : decode cL_holds 251 = .ok (.iload 5, 2) := by decide +kernel
theorem dL_holds_253 : decode cL_holds 253 = .ok (.aload_n 0, 1) := by decide +kernel
theorem dL_holds_254 : decode cL_holds 254 = .ok (.iload 6, 2) := by decide +kernel
theorem dL_holds_256 : decode cL_holds 256 = .ok (.invokevirtual 23, 3) := by decide +kernel
theorem dL_holds_259 : decode cL_holds 259 = .ok (.ifCond .lt 29, 3) := by decide +kernel
theorem dL_holds_262 : decode cL_holds 262 = .ok (.iload 6, 2) := by decide +kernel
theorem dL_holds_264 : decode cL_holds 264 = .ok (.ifCond .eq 20, 3) := by decide +kernel
theorem dL_holds_267 : decode cL_holds 267 = .ok (.aload_n 0, 1) := by decide +kernel
theorem dL_holds_268 : decode cL_holds 268 = .ok (.iload 6, 2) := by decide +kernel
theorem dL_holds_270 : decode cL_holds 270 = .ok (.iconst 1, 1) := by decide +kernel
theorem dL_holds_271 : decode cL_holds 271 = .ok (.isub, 1) := by decide +kernel
theorem dL_holds_272 : decode cL_holds 272 = .ok (.invokevirtual 23, 3) := by decide +kernel
theorem dL_holds_275 : decode cL_holds 275 = .ok (.aload_n 0, 1) := by decide +kernel
theorem dL_holds_276 : decode cL_holds 276 = .ok (.iload 6, 2) := by decide +kernel
theorem dL_holds_278 : decode cL_holds 278 = .ok (.invokevirtual 23, 3) := by decide +kernel
theorem dL_holds_281 : decode cL_holds 281 = .ok (.if_icmp .eq 7, 3) := by decide +kernel
theorem dL_holds_284 : decode cL_holds 284 = .ok (.iconst 1, 1) := by decide +kernel
theorem dL_holds_285 : decode cL_holds 285 = .ok (.goto 4, 3) := by decide +kernel
theorem dL_holds_288 : decode cL_holds 288 = .ok (.iconst 0, 1) := by decide +kernel
theorem dL_holds_289 : decode cL_holds 289 = .ok (.iadd, 1) := by decide +kernel
theorem dL_holds_290 : decode cL_holds 290 = .ok (.istore 5, 2) := by decide +kernel
theorem dL_holds_292 : decode cL_holds 292 = .ok (.iinc 6 1, 3) := by decide +kernel
theorem dL_holds_295 : decode cL_holds 295 = .ok (.goto (-71), 3) := by decide +kernel
theorem dL_holds_298 : decode cL_holds 298 = .ok (.iconst 0, 1) := by decide +kernel
theorem dL_holds_299 : decode cL_holds 299 = .ok (.istore 6, 2) := by decide +kernel
theorem dL_holds_301 : decode cL_holds 301 = .ok (.iconst 0, 1) := by decide +kernel
theorem dL_holds_302 : decode cL_holds 302 = .ok (.istore 7, 2) := by decide +kernel
theorem dL_holds_304 : decode cL_holds 304 = .ok (.iconst 0, 1) := by decide +kernel
theorem dL_holds_305 : decode cL_holds 305 = .ok (.istore 8, 2) := by decide +kernel
theorem dL_holds_307 : decode cL_holds 307 = .ok (.aload_n 0, 1) := by decide +kernel
theorem dL_holds_308 : decode cL_holds 308 = .ok (.invokevirtual 35, 3) := by decide +kernel
theorem dL_holds_311 : decode cL_holds 311 = .ok (.istore 9, 2) := by decide +kernel
theorem dL_holds_313 : decode cL_holds 313 = .ok (.iconst 0, 1) := by decide +kernel
theorem dL_holds_314 : decode cL_holds 314 = .ok (.istore 10, 2) := by decide +kernel
theorem dL_holds_316 : decode cL_holds 316 = .ok (.iload 10, 2) := by decide +kernel
theorem dL_holds_318 : decode cL_holds 318 = .ok (.aload_n 0, 1) := by decide +kernel
theorem dL_holds_319 : decode cL_holds 319 = .ok (.bipush 6, 2) := by decide +kernel
theorem dL_holds_321 : decode cL_holds 321 = .ok (.invokevirtual 26, 3) := by decide +kernel
theorem dL_holds_324 : decode cL_holds 324 = .ok (.if_icmp .ge 209, 3) := by decide +kernel
theorem dL_holds_327 : decode cL_holds 327 = .ok (.iconst 0, 1) := by decide +kernel
theorem dL_holds_328 : decode cL_holds 328 = .ok (.istore 11, 2) := by decide +kernel
theorem dL_holds_330 : decode cL_holds 330 = .ok (.aload_n 0, 1) := by decide +kernel
theorem dL_holds_331 : decode cL_holds 331 = .ok (.iload 10, 2) := by decide +kernel
theorem dL_holds_333 : decode cL_holds 333 = .ok (.iconst 0, 1) := by decide +kernel
theorem dL_holds_334 : decode cL_holds 334 = .ok (.invokevirtual 39, 3) := by decide +kernel
theorem dL_holds_337 : decode cL_holds 337 = .ok (.istore 12, 2) := by decide +kernel
theorem dL_holds_339 : decode cL_holds 339 = .ok (.iload 12, 2) := by decide +kernel
theorem dL_holds_341 : decode cL_holds 341 = .ok (.aload_n 0, 1) := by decide +kernel
theorem dL_holds_342 : decode cL_holds 342 = .ok (.iload 10, 2) := by decide +kernel
theorem dL_holds_344 : decode cL_holds 344 = .ok (.iconst 0, 1) := by decide +kernel
theorem dL_holds_345 : decode cL_holds 345 = .ok (.invokevirtual 39, 3) := by decide +kernel
theorem dL_holds_348 : decode cL_holds 348 = .ok (.aload_n 0, 1) := by decide +kernel
theorem dL_holds_349 : decode cL_holds 349 = .ok (.iload 10, 2) := by decide +kernel
theorem dL_holds_351 : decode cL_holds 351 = .ok (.iconst 1, 1) := by decide +kernel
theorem dL_holds_352 : decode cL_holds 352 = .ok (.invokevirtual 39, 3) := by decide +kernel
theorem dL_holds_355 : decode cL_holds 355 = .ok (.iadd, 1) := by decide +kernel
theorem dL_holds_356 : decode cL_holds 356 = .ok (.if_icmp .ge 39, 3) := by decide +kernel
theorem dL_holds_359 : decode cL_holds 359 = .ok (.iload 11, 2) := by decide +kernel
theorem dL_holds_361 : decode cL_holds 361 = .ok (.aload_n 0, 1) := by decide +kernel
theorem dL_holds_362 : decode cL_holds 362 = .ok (.iload 12, 2) := by decide +kernel
theorem dL_holds_364 : decode cL_holds 364 = .ok (.iconst 4, 1) := by decide +kernel
theorem dL_holds_365 : decode cL_holds 365 = .ok (.invokevirtual 10, 3) := by decide +kernel
theorem dL_holds_368 : decode cL_holds 368 = .ok (.iload 10, 2) := by decide +kernel
theorem dL_holds_370 : decode cL_holds 370 = .ok (.if_icmp .ne 14, 3) := by decide +kernel
theorem dL_holds_373 : decode cL_holds 373 = .ok (.aload_n 0, 1) := by decide +kernel
theorem dL_holds_374 : decode cL_holds 374 = .ok (.iload 12, 2) := by decide +kernel
theorem dL_holds_376 : decode cL_holds 376 = .ok (.bipush 10, 2) := by decide +kernel
theorem dL_holds_378 : decode cL_holds 378 = .ok (.invokevirtual 10, 3) := by decide +kernel
theorem dL_holds_381 : decode cL_holds 381 = .ok (.goto 5, 3) := by decide +kernel
theorem dL_holds_384 : decode cL_holds 384 = .ok (.ldc 42, 2) := by decide +kernel
theorem dL_holds_386 : decode cL_holds 386 = .ok (.iadd, 1) := by decide +kernel
theorem dL_holds_387 : decode cL_holds 387 = .ok (.istore 11, 2) := by decide +kernel
theorem dL_holds_389 : decode cL_holds 389 = .ok (.iinc 12 1, 3) := by decide +kernel
theorem dL_holds_392 : decode cL_holds 392 = .ok (.goto (-53), 3) := by decide +kernel
theorem dL_holds_395 : decode cL_holds 395 = .ok (.iload 11, 2) := by decide +kernel
theorem dL_holds_397 : decode cL_holds 397 = .ok (.aload_n 0, 1) := by decide +kernel
theorem dL_holds_398 : decode cL_holds 398 = .ok (.iload 10, 2) := by decide +kernel
theorem dL_holds_400 : decode cL_holds 400 = .ok (.iconst 1, 1) := by decide +kernel
theorem dL_holds_401 : decode cL_holds 401 = .ok (.invokevirtual 39, 3) := by decide +kernel
theorem dL_holds_404 : decode cL_holds 404 = .ok (.iconst 1, 1) := by decide +kernel
theorem dL_holds_405 : decode cL_holds 405 = .ok (.if_icmp .le 25, 3) := by decide +kernel
theorem dL_holds_408 : decode cL_holds 408 = .ok (.aload_n 0, 1) := by decide +kernel
theorem dL_holds_409 : decode cL_holds 409 = .ok (.iload 10, 2) := by decide +kernel
theorem dL_holds_411 : decode cL_holds 411 = .ok (.iconst 2, 1) := by decide +kernel
theorem dL_holds_412 : decode cL_holds 412 = .ok (.invokevirtual 39, 3) := by decide +kernel
theorem dL_holds_415 : decode cL_holds 415 = .ok (.aload_n 0, 1) := by decide +kernel
theorem dL_holds_416 : decode cL_holds 416 = .ok (.iload 10, 2) := by decide +kernel
theorem dL_holds_418 : decode cL_holds 418 = .ok (.iconst 1, 1) := by decide +kernel
theorem dL_holds_419 : decode cL_holds 419 = .ok (.invokevirtual 39, 3) := by decide +kernel
theorem dL_holds_422 : decode cL_holds 422 = .ok (.if_icmp .ne 8, 3) := by decide +kernel
theorem dL_holds_425 : decode cL_holds 425 = .ok (.bipush 50, 2) := by decide +kernel
theorem dL_holds_427 : decode cL_holds 427 = .ok (.goto 4, 3) := by decide +kernel
theorem dL_holds_430 : decode cL_holds 430 = .ok (.iconst 0, 1) := by decide +kernel
theorem dL_holds_431 : decode cL_holds 431 = .ok (.iadd, 1) := by decide +kernel
theorem dL_holds_432 : decode cL_holds 432 = .ok (.istore 11, 2) := by decide +kernel
theorem dL_holds_434 : decode cL_holds 434 = .ok (.iload 11, 2) := by decide +kernel
theorem dL_holds_436 : decode cL_holds 436 = .ok (.aload_n 0, 1) := by decide +kernel
theorem dL_holds_437 : decode cL_holds 437 = .ok (.iload 10, 2) := by decide +kernel
theorem dL_holds_439 : decode cL_holds 439 = .ok (.iconst 3, 1) := by decide +kernel
theorem dL_holds_440 : decode cL_holds 440 = .ok (.invokevirtual 39, 3) := by decide +kernel
theorem dL_holds_443 : decode cL_holds 443 = .ok (.if_icmp .ne 51, 3) := by decide +kernel
theorem dL_holds_446 : decode cL_holds 446 = .ok (.aload_n 0, 1) := by decide +kernel
theorem dL_holds_447 : decode cL_holds 447 = .ok (.iload 10, 2) := by decide +kernel
theorem dL_holds_449 : decode cL_holds 449 = .ok (.iconst 4, 1) := by decide +kernel
theorem dL_holds_450 : decode cL_holds 450 = .ok (.invokevirtual 39, 3) := by decide +kernel
theorem dL_holds_453 : decode cL_holds 453 = .ok (.aload_n 0, 1) := by decide +kernel
theorem dL_holds_454 : decode cL_holds 454 = .ok (.iload 10, 2) := by decide +kernel
theorem dL_holds_456 : decode cL_holds 456 = .ok (.iconst 2, 1) := by decide +kernel
theorem dL_holds_457 : decode cL_holds 457 = .ok (.invokevirtual 39, 3) := by decide +kernel
theorem dL_holds_460 : decode cL_holds 460 = .ok (.if_icmp .gt 34, 3) := by decide +kernel
theorem dL_holds_463 : decode cL_holds 463 = .ok (.aload_n 0, 1) := by decide +kernel
theorem dL_holds_464 : decode cL_holds 464 = .ok (.iload 9, 2) := by decide +kernel
theorem dL_holds_466 : decode cL_holds 466 = .ok (.iconst 3, 1) := by decide +kernel
theorem dL_holds_467 : decode cL_holds 467 = .ok (.invokevirtual 39, 3) := by decide +kernel
theorem dL_holds_470 : decode cL_holds 470 = .ok (.iload 11, 2) := by decide +kernel
theorem dL_holds_472 : decode cL_holds 472 = .ok (.if_icmp .gt 22, 3) := by decide +kernel
theorem dL_holds_475 : decode cL_holds 475 = .ok (.iload 10, 2) := by decide +kernel
theorem dL_holds_477 : decode cL_holds 477 = .ok (.iload 9, 2) := by decide +kernel
theorem dL_holds_479 : decode cL_holds 479 = .ok (.if_icmp .ge 17, 3) := by decide +kernel
theorem dL_holds_482 : decode cL_holds 482 = .ok (.aload_n 0, 1) := by decide +kernel
theorem dL_holds_483 : decode cL_holds 483 = .ok (.iload 9, 2) := by decide +kernel
theorem dL_holds_485 : decode cL_holds 485 = .ok (.iconst 3, 1) := by decide +kernel
theorem dL_holds_486 : decode cL_holds 486 = .ok (.invokevirtual 39, 3) := by decide +kernel
theorem dL_holds_489 : decode cL_holds 489 = .ok (.iload 11, 2) := by decide +kernel
theorem dL_holds_491 : decode cL_holds 491 = .ok (.if_icmp .ne 5, 3) := by decide +kernel
theorem dL_holds_494 : decode cL_holds 494 = .ok (.iconst 0, 1) := by decide +kernel
theorem dL_holds_495 : decode cL_holds 495 = .ok (.ireturn, 1) := by decide +kernel
theorem dL_holds_496 : decode cL_holds 496 = .ok (.iload 6, 2) := by decide +kernel
theorem dL_holds_498 : decode cL_holds 498 = .ok (.aload_n 0, 1) := by decide +kernel
theorem dL_holds_499 : decode cL_holds 499 = .ok (.iload 10, 2) := by decide +kernel
theorem dL_holds_501 : decode cL_holds 501 = .ok (.iconst 1, 1) := by decide +kernel
theorem dL_holds_502 : decode cL_holds 502 = .ok (.invokevirtual 39, 3) := by decide +kernel
theorem dL_holds_505 : decode cL_holds 505 = .ok (.iadd, 1) := by decide +kernel
theorem dL_holds_506 : decode cL_holds 506 = .ok (.istore 6, 2) := by decide +kernel
theorem dL_holds_508 : decode cL_holds 508 = .ok (.iload 7, 2) := by decide +kernel
theorem dL_holds_510 : decode cL_holds 510 = .ok (.aload_n 0, 1) := by decide +kernel
theorem dL_holds_511 : decode cL_holds 511 = .ok (.iload 10, 2) := by decide +kernel
theorem dL_holds_513 : decode cL_holds 513 = .ok (.iconst 2, 1) := by decide +kernel
theorem dL_holds_514 : decode cL_holds 514 = .ok (.invokevirtual 39, 3) := by decide +kernel
theorem dL_holds_517 : decode cL_holds 517 = .ok (.iadd, 1) := by decide +kernel
theorem dL_holds_518 : decode cL_holds 518 = .ok (.istore 7, 2) := by decide +kernel
theorem dL_holds_520 : decode cL_holds 520 = .ok (.iload 8, 2) := by decide +kernel
theorem dL_holds_522 : decode cL_holds 522 = .ok (.iload 11, 2) := by decide +kernel
theorem dL_holds_524 : decode cL_holds 524 = .ok (.iadd, 1) := by decide +kernel
theorem dL_holds_525 : decode cL_holds 525 = .ok (.istore 8, 2) := by decide +kernel
theorem dL_holds_527 : decode cL_holds 527 = .ok (.iinc 10 1, 3) := by decide +kernel
theorem dL_holds_530 : decode cL_holds 530 = .ok (.goto (-214), 3) := by decide +kernel
theorem dL_holds_533 : decode cL_holds 533 = .ok (.iload 6, 2) := by decide +kernel
theorem dL_holds_535 : decode cL_holds 535 = .ok (.iload_n 1, 1) := by decide +kernel
theorem dL_holds_536 : decode cL_holds 536 = .ok (.if_icmp .ne 110, 3) := by decide +kernel
theorem dL_holds_539 : decode cL_holds 539 = .ok (.iload 7, 2) := by decide +kernel
theorem dL_holds_541 : decode cL_holds 541 = .ok (.iload_n 3, 1) := by decide +kernel
theorem dL_holds_542 : decode cL_holds 542 = .ok (.if_icmp .ne 104, 3) := by decide +kernel
theorem dL_holds_545 : decode cL_holds 545 = .ok (.aload_n 0, 1) := by decide +kernel
theorem dL_holds_546 : decode cL_holds 546 = .ok (.bipush 10, 2) := by decide +kernel
theorem dL_holds_548 : decode cL_holds 548 = .ok (.invokevirtual 26, 3) := by decide +kernel
theorem dL_holds_551 : decode cL_holds 551 = .ok (.iload_n 3, 1) := by decide +kernel
theorem dL_holds_552 : decode cL_holds 552 = .ok (.if_icmp .ne 94, 3) := by decide +kernel
theorem dL_holds_555 : decode cL_holds 555 = .ok (.aload_n 0, 1) := by decide +kernel
theorem dL_holds_556 : decode cL_holds 556 = .ok (.bipush 11, 2) := by decide +kernel
theorem dL_holds_558 : decode cL_holds 558 = .ok (.invokevirtual 26, 3) := by decide +kernel
theorem dL_holds_561 : decode cL_holds 561 = .ok (.iload 8, 2) := by decide +kernel
theorem dL_holds_563 : decode cL_holds 563 = .ok (.if_icmp .ne 83, 3) := by decide +kernel
theorem dL_holds_566 : decode cL_holds 566 = .ok (.iload 8, 2) := by decide +kernel
theorem dL_holds_568 : decode cL_holds 568 = .ok (.aload_n 0, 1) := by decide +kernel
theorem dL_holds_569 : decode cL_holds 569 = .ok (.bipush 12, 2) := by decide +kernel
theorem dL_holds_571 : decode cL_holds 571 = .ok (.invokevirtual 26, 3) := by decide +kernel
theorem dL_holds_574 : decode cL_holds 574 = .ok (.if_icmp .gt 72, 3) := by decide +kernel
theorem dL_holds_577 : decode cL_holds 577 = .ok (.aload_n 0, 1) := by decide +kernel
theorem dL_holds_578 : decode cL_holds 578 = .ok (.bipush 8, 2) := by decide +kernel
theorem dL_holds_580 : decode cL_holds 580 = .ok (.invokevirtual 26, 3) := by decide +kernel
theorem dL_holds_583 : decode cL_holds 583 = .ok (.iload 4, 2) := by decide +kernel
theorem dL_holds_585 : decode cL_holds 585 = .ok (.if_icmp .ne 61, 3) := by decide +kernel
theorem dL_holds_588 : decode cL_holds 588 = .ok (.aload_n 0, 1) := by decide +kernel
theorem dL_holds_589 : decode cL_holds 589 = .ok (.bipush 9, 2) := by decide +kernel
theorem dL_holds_591 : decode cL_holds 591 = .ok (.invokevirtual 26, 3) := by decide +kernel
theorem dL_holds_594 : decode cL_holds 594 = .ok (.iload 5, 2) := by decide +kernel
theorem dL_holds_596 : decode cL_holds 596 = .ok (.if_icmp .ne 50, 3) := by decide +kernel
theorem dL_holds_599 : decode cL_holds 599 = .ok (.aload_n 0, 1) := by decide +kernel
theorem dL_holds_600 : decode cL_holds 600 = .ok (.bipush 7, 2) := by decide +kernel
theorem dL_holds_602 : decode cL_holds 602 = .ok (.invokevirtual 26, 3) := by decide +kernel
theorem dL_holds_605 : decode cL_holds 605 = .ok (.iload_n 2, 1) := by decide +kernel
theorem dL_holds_606 : decode cL_holds 606 = .ok (.if_icmp .ne 40, 3) := by decide +kernel
theorem dL_holds_609 : decode cL_holds 609 = .ok (.iload 9, 2) := by decide +kernel
theorem dL_holds_611 : decode cL_holds 611 = .ok (.ifCond .ge 7, 3) := by decide +kernel
theorem dL_holds_614 : decode cL_holds 614 = .ok (.iconst 1, 1) := by decide +kernel
theorem dL_holds_615 : decode cL_holds 615 = .ok (.goto 4, 3) := by decide +kernel
theorem dL_holds_618 : decode cL_holds 618 = .ok (.iconst 0, 1) := by decide +kernel
theorem dL_holds_619 : decode cL_holds 619 = .ok (.iload_n 1, 1) := by decide +kernel
theorem dL_holds_620 : decode cL_holds 620 = .ok (.ifCond .ne 7, 3) := by decide +kernel
theorem dL_holds_623 : decode cL_holds 623 = .ok (.iconst 1, 1) := by decide +kernel
theorem dL_holds_624 : decode cL_holds 624 = .ok (.goto 4, 3) := by decide +kernel
theorem dL_holds_627 : decode cL_holds 627 = .ok (.iconst 0, 1) := by decide +kernel
theorem dL_holds_628 : decode cL_holds 628 = .ok (.if_icmp .ne 18, 3) := by decide +kernel
theorem dL_holds_631 : decode cL_holds 631 = .ok (.aload_n 0, 1) := by decide +kernel
theorem dL_holds_632 : decode cL_holds 632 = .ok (.iconst 0, 1) := by decide +kernel
theorem dL_holds_633 : decode cL_holds 633 = .ok (.iconst 0, 1) := by decide +kernel
theorem dL_holds_634 : decode cL_holds 634 = .ok (.invokevirtual 43, 3) := by decide +kernel
theorem dL_holds_637 : decode cL_holds 637 = .ok (.iload 8, 2) := by decide +kernel
theorem dL_holds_639 : decode cL_holds 639 = .ok (.if_icmp .ne 7, 3) := by decide +kernel
theorem dL_holds_642 : decode cL_holds 642 = .ok (.iconst 1, 1) := by decide +kernel
theorem dL_holds_643 : decode cL_holds 643 = .ok (.goto 4, 3) := by decide +kernel
theorem dL_holds_646 : decode cL_holds 646 = .ok (.iconst 0, 1) := by decide +kernel
theorem dL_holds_647 : decode cL_holds 647 = .ok (.ireturn, 1) := by decide +kernel
theorem dL_shifts_0 : decode cL_shifts 0 = .ok (.aload_n 0, 1) := by decide +kernel
theorem dL_shifts_1 : decode cL_shifts 1 = .ok (.invokevirtual 46, 3) := by decide +kernel
theorem dL_shifts_4 : decode cL_shifts 4 = .ok (.bipush 32, 2) := by decide +kernel
theorem dL_shifts_6 : decode cL_shifts 6 = .ok (.isub, 1) := by decide +kernel
theorem dL_shifts_7 : decode cL_shifts 7 = .ok (.istore_n 2, 1) := by decide +kernel
theorem dL_shifts_8 : decode cL_shifts 8 = .ok (.aload_n 0, 1) := by decide +kernel
theorem dL_shifts_9 : decode cL_shifts 9 = .ok (.iload_n 2, 1) := by decide +kernel
theorem dL_shifts_10 : decode cL_shifts 10 = .ok (.iconst 0, 1) := by decide +kernel
theorem dL_shifts_11 : decode cL_shifts 11 = .ok (.invokevirtual 43, 3) := by decide +kernel
theorem dL_shifts_14 : decode cL_shifts 14 = .ok (.istore_n 3, 1) := by decide +kernel
theorem dL_shifts_15 : decode cL_shifts 15 = .ok (.iload_n 2, 1) := by decide +kernel
theorem dL_shifts_16 : decode cL_shifts 16 = .ok (.bipush (-32), 2) := by decide +kernel
theorem dL_shifts_18 : decode cL_shifts 18 = .ok (.if_icmp .lt 23, 3) := by decide +kernel
theorem dL_shifts_21 : decode cL_shifts 21 = .ok (.iload_n 2, 1) := by decide +kernel
theorem dL_shifts_22 : decode cL_shifts 22 = .ok (.bipush 32, 2) := by decide +kernel
theorem dL_shifts_24 : decode cL_shifts 24 = .ok (.if_icmp .gt 17, 3) := by decide +kernel
theorem dL_shifts_27 : decode cL_shifts 27 = .ok (.iload_n 3, 1) := by decide +kernel
theorem dL_shifts_28 : decode cL_shifts 28 = .ok (.aload_n 0, 1) := by decide +kernel
theorem dL_shifts_29 : decode cL_shifts 29 = .ok (.bipush 11, 2) := by decide +kernel
theorem dL_shifts_31 : decode cL_shifts 31 = .ok (.invokevirtual 26, 3) := by decide +kernel
theorem dL_shifts_34 : decode cL_shifts 34 = .ok (.if_icmp .lt 7, 3) := by decide +kernel
theorem dL_shifts_37 : decode cL_shifts 37 = .ok (.iconst 1, 1) := by decide +kernel
theorem dL_shifts_38 : decode cL_shifts 38 = .ok (.goto 4, 3) := by decide +kernel
theorem dL_shifts_41 : decode cL_shifts 41 = .ok (.iconst 0, 1) := by decide +kernel
theorem dL_shifts_42 : decode cL_shifts 42 = .ok (.istore 4, 2) := by decide +kernel
theorem dL_shifts_44 : decode cL_shifts 44 = .ok (.bipush (-32), 2) := by decide +kernel
theorem dL_shifts_46 : decode cL_shifts 46 = .ok (.istore 5, 2) := by decide +kernel
theorem dL_shifts_48 : decode cL_shifts 48 = .ok (.iload 5, 2) := by decide +kernel
theorem dL_shifts_50 : decode cL_shifts 50 = .ok (.bipush 32, 2) := by decide +kernel
theorem dL_shifts_52 : decode cL_shifts 52 = .ok (.if_icmp .gt 89, 3) := by decide +kernel
theorem dL_shifts_55 : decode cL_shifts 55 = .ok (.iload 4, 2) := by decide +kernel
theorem dL_shifts_57 : decode cL_shifts 57 = .ok (.ifCond .eq 84, 3) := by decide +kernel
theorem dL_shifts_60 : decode cL_shifts 60 = .ok (.aload_n 0, 1) := by decide +kernel
theorem dL_shifts_61 : decode cL_shifts 61 = .ok (.iload 5, 2) := by decide +kernel
theorem dL_shifts_63 : decode cL_shifts 63 = .ok (.iconst 0, 1) := by decide +kernel
theorem dL_shifts_64 : decode cL_shifts 64 = .ok (.invokevirtual 43, 3) := by decide +kernel
theorem dL_shifts_67 : decode cL_shifts 67 = .ok (.istore 6, 2) := by decide +kernel
theorem dL_shifts_69 : decode cL_shifts 69 = .ok (.iload 5, 2) := by decide +kernel
theorem dL_shifts_71 : decode cL_shifts 71 = .ok (.ifCond .ge 9, 3) := by decide +kernel
theorem dL_shifts_74 : decode cL_shifts 74 = .ok (.iload 5, 2) := by decide +kernel
theorem dL_shifts_76 : decode cL_shifts 76 = .ok (.ineg, 1) := by decide +kernel
theorem dL_shifts_77 : decode cL_shifts 77 = .ok (.goto 5, 3) := by decide +kernel
theorem dL_shifts_80 : decode cL_shifts 80 = .ok (.iload 5, 2) := by decide +kernel
theorem dL_shifts_82 : decode cL_shifts 82 = .ok (.istore 7, 2) := by decide +kernel
theorem dL_shifts_84 : decode cL_shifts 84 = .ok (.iload_n 2, 1) := by decide +kernel
theorem dL_shifts_85 : decode cL_shifts 85 = .ok (.ifCond .ge 8, 3) := by decide +kernel
theorem dL_shifts_88 : decode cL_shifts 88 = .ok (.iload_n 2, 1) := by decide +kernel
theorem dL_shifts_89 : decode cL_shifts 89 = .ok (.ineg, 1) := by decide +kernel
theorem dL_shifts_90 : decode cL_shifts 90 = .ok (.goto 4, 3) := by decide +kernel
theorem dL_shifts_93 : decode cL_shifts 93 = .ok (.iload_n 2, 1) := by decide +kernel
theorem dL_shifts_94 : decode cL_shifts 94 = .ok (.istore 8, 2) := by decide +kernel
theorem dL_shifts_96 : decode cL_shifts 96 = .ok (.iload 6, 2) := by decide +kernel
theorem dL_shifts_98 : decode cL_shifts 98 = .ok (.iload_n 3, 1) := by decide +kernel
theorem dL_shifts_99 : decode cL_shifts 99 = .ok (.if_icmp .lt 29, 3) := by decide +kernel
theorem dL_shifts_102 : decode cL_shifts 102 = .ok (.iload 6, 2) := by decide +kernel
theorem dL_shifts_104 : decode cL_shifts 104 = .ok (.iload_n 3, 1) := by decide +kernel
theorem dL_shifts_105 : decode cL_shifts 105 = .ok (.if_icmp .ne 27, 3) := by decide +kernel
theorem dL_shifts_108 : decode cL_shifts 108 = .ok (.iload 7, 2) := by decide +kernel
theorem dL_shifts_110 : decode cL_shifts 110 = .ok (.iload 8, 2) := by decide +kernel
theorem dL_shifts_112 : decode cL_shifts 112 = .ok (.if_icmp .gt 16, 3) := by decide +kernel
theorem dL_shifts_115 : decode cL_shifts 115 = .ok (.iload 7, 2) := by decide +kernel
theorem dL_shifts_117 : decode cL_shifts 117 = .ok (.iload 8, 2) := by decide +kernel
theorem dL_shifts_119 : decode cL_shifts 119 = .ok (.if_icmp .ne 13, 3) := by decide +kernel
theorem dL_shifts_122 : decode cL_shifts 122 = .ok (.iload_n 2, 1) := by decide +kernel
theorem dL_shifts_123 : decode cL_shifts 123 = .ok (.iload 5, 2) := by decide +kernel
theorem dL_shifts_125 : decode cL_shifts 125 = .ok (.if_icmp .gt 7, 3) := by decide +kernel
theorem dL_shifts_128 : decode cL_shifts 128 = .ok (.iconst 1, 1) := by decide +kernel
theorem dL_shifts_129 : decode cL_shifts 129 = .ok (.goto 4, 3) := by decide +kernel
theorem dL_shifts_132 : decode cL_shifts 132 = .ok (.iconst 0, 1) := by decide +kernel
theorem dL_shifts_133 : decode cL_shifts 133 = .ok (.istore 4, 2) := by decide +kernel
theorem dL_shifts_135 : decode cL_shifts 135 = .ok (.iinc 5 1, 3) := by decide +kernel
theorem dL_shifts_138 : decode cL_shifts 138 = .ok (.goto (-90), 3) := by decide +kernel
theorem dL_shifts_141 : decode cL_shifts 141 = .ok (.iconst 0, 1) := by decide +kernel
theorem dL_shifts_142 : decode cL_shifts 142 = .ok (.istore 5, 2) := by decide +kernel
theorem dL_shifts_144 : decode cL_shifts 144 = .ok (.iload 5, 2) := by decide +kernel
theorem dL_shifts_146 : decode cL_shifts 146 = .ok (.iconst 5, 1) := by decide +kernel
theorem dL_shifts_147 : decode cL_shifts 147 = .ok (.if_icmp .ge 42, 3) := by decide +kernel
theorem dL_shifts_150 : decode cL_shifts 150 = .ok (.iload 4, 2) := by decide +kernel
theorem dL_shifts_152 : decode cL_shifts 152 = .ok (.ifCond .eq 37, 3) := by decide +kernel
theorem dL_shifts_155 : decode cL_shifts 155 = .ok (.aload_n 0, 1) := by decide +kernel
theorem dL_shifts_156 : decode cL_shifts 156 = .ok (.iload 5, 2) := by decide +kernel
theorem dL_shifts_158 : decode cL_shifts 158 = .ok (.aload_n 0, 1) := by decide +kernel
theorem dL_shifts_159 : decode cL_shifts 159 = .ok (.iload 5, 2) := by decide +kernel
theorem dL_shifts_161 : decode cL_shifts 161 = .ok (.invokevirtual 26, 3) := by decide +kernel
theorem dL_shifts_164 : decode cL_shifts 164 = .ok (.invokevirtual 49, 3) := by decide +kernel
theorem dL_shifts_167 : decode cL_shifts 167 = .ok (.aload_n 0, 1) := by decide +kernel
theorem dL_shifts_168 : decode cL_shifts 168 = .ok (.bipush 11, 2) := by decide +kernel
theorem dL_shifts_170 : decode cL_shifts 170 = .ok (.invokevirtual 26, 3) := by decide +kernel
theorem dL_shifts_173 : decode cL_shifts 173 = .ok (.if_icmp .ne 7, 3) := by decide +kernel
theorem dL_shifts_176 : decode cL_shifts 176 = .ok (.iconst 1, 1) := by decide +kernel
theorem dL_shifts_177 : decode cL_shifts 177 = .ok (.goto 4, 3) := by decide +kernel
theorem dL_shifts_180 : decode cL_shifts 180 = .ok (.iconst 0, 1) := by decide +kernel
theorem dL_shifts_181 : decode cL_shifts 181 = .ok (.istore 4, 2) := by decide +kernel
theorem dL_shifts_183 : decode cL_shifts 183 = .ok (.iinc 5 1, 3) := by decide +kernel
theorem dL_shifts_186 : decode cL_shifts 186 = .ok (.goto (-42), 3) := by decide +kernel
theorem dL_shifts_189 : decode cL_shifts 189 = .ok (.iload_n 1, 1) := by decide +kernel
theorem dL_shifts_190 : decode cL_shifts 190 = .ok (.iconst 5, 1) := by decide +kernel
theorem dL_shifts_191 : decode cL_shifts 191 = .ok (.invokestatic 52, 3) := by decide +kernel
theorem dL_shifts_194 : decode cL_shifts 194 = .ok (.istore 5, 2) := by decide +kernel
theorem dL_shifts_196 : decode cL_shifts 196 = .ok (.iload 5, 2) := by decide +kernel
theorem dL_shifts_198 : decode cL_shifts 198 = .ok (.ifCond .ne 16, 3) := by decide +kernel
theorem dL_shifts_201 : decode cL_shifts 201 = .ok (.iconst 2, 1) := by decide +kernel
theorem dL_shifts_202 : decode cL_shifts 202 = .ok (.iload_n 1, 1) := by decide +kernel
theorem dL_shifts_203 : decode cL_shifts 203 = .ok (.iconst 3, 1) := by decide +kernel
theorem dL_shifts_204 : decode cL_shifts 204 = .ok (.ishr, 1) := by decide +kernel
theorem dL_shifts_205 : decode cL_shifts 205 = .ok (.bipush 63, 2) := by decide +kernel
theorem dL_shifts_207 : decode cL_shifts 207 = .ok (.invokestatic 52, 3) := by decide +kernel
theorem dL_shifts_210 : decode cL_shifts 210 = .ok (.iadd, 1) := by decide +kernel
theorem dL_shifts_211 : decode cL_shifts 211 = .ok (.goto 63, 3) := by decide +kernel
theorem dL_shifts_214 : decode cL_shifts 214 = .ok (.iload 5, 2) := by decide +kernel
theorem dL_shifts_216 : decode cL_shifts 216 = .ok (.iconst 1, 1) := by decide +kernel
theorem dL_shifts_217 : decode cL_shifts 217 = .ok (.if_icmp .ne 14, 3) := by decide +kernel
theorem dL_shifts_220 : decode cL_shifts 220 = .ok (.iload_n 1, 1) := by decide +kernel
theorem dL_shifts_221 : decode cL_shifts 221 = .ok (.iconst 3, 1) := by decide +kernel
theorem dL_shifts_222 : decode cL_shifts 222 = .ok (.ishr, 1) := by decide +kernel
theorem dL_shifts_223 : decode cL_shifts 223 = .ok (.bipush 7, 2) := by decide +kernel
theorem dL_shifts_225 : decode cL_shifts 225 = .ok (.invokestatic 52, 3) := by decide +kernel
theorem dL_shifts_228 : decode cL_shifts 228 = .ok (.goto 46, 3) := by decide +kernel
theorem dL_shifts_231 : decode cL_shifts 231 = .ok (.iload 5, 2) := by decide +kernel
theorem dL_shifts_233 : decode cL_shifts 233 = .ok (.iconst 2, 1) := by decide +kernel
theorem dL_shifts_234 : decode cL_shifts 234 = .ok (.if_icmp .ne 14, 3) := by decide +kernel
theorem dL_shifts_237 : decode cL_shifts 237 = .ok (.iload_n 1, 1) := by decide +kernel
theorem dL_shifts_238 : decode cL_shifts 238 = .ok (.iconst 3, 1) := by decide +kernel
theorem dL_shifts_239 : decode cL_shifts 239 = .ok (.ishr, 1) := by decide +kernel
theorem dL_shifts_240 : decode cL_shifts 240 = .ok (.bipush 9, 2) := by decide +kernel
theorem dL_shifts_242 : decode cL_shifts 242 = .ok (.invokestatic 52, 3) := by decide +kernel
theorem dL_shifts_245 : decode cL_shifts 245 = .ok (.goto 29, 3) := by decide +kernel
theorem dL_shifts_248 : decode cL_shifts 248 = .ok (.iload 5, 2) := by decide +kernel
theorem dL_shifts_250 : decode cL_shifts 250 = .ok (.iconst 3, 1) := by decide +kernel
theorem dL_shifts_251 : decode cL_shifts 251 = .ok (.if_icmp .ne 13, 3) := by decide +kernel
theorem dL_shifts_254 : decode cL_shifts 254 = .ok (.iload_n 1, 1) := by decide +kernel
theorem dL_shifts_255 : decode cL_shifts 255 = .ok (.iconst 3, 1) := by decide +kernel
theorem dL_shifts_256 : decode cL_shifts 256 = .ok (.ishr, 1) := by decide +kernel
theorem dL_shifts_257 : decode cL_shifts 257 = .ok (.iconst 2, 1) := by decide +kernel
theorem dL_shifts_258 : decode cL_shifts 258 = .ok (.invokestatic 52, 3) := by decide +kernel
theorem dL_shifts_261 : decode cL_shifts 261 = .ok (.goto 13, 3) := by decide +kernel
theorem dL_shifts_264 : decode cL_shifts 264 = .ok (.iconst 1, 1) := by decide +kernel
theorem dL_shifts_265 : decode cL_shifts 265 = .ok (.iload_n 1, 1) := by decide +kernel
theorem dL_shifts_266 : decode cL_shifts 266 = .ok (.iconst 3, 1) := by decide +kernel
theorem dL_shifts_267 : decode cL_shifts 267 = .ok (.ishr, 1) := by decide +kernel
theorem dL_shifts_268 : decode cL_shifts 268 = .ok (.bipush 100, 2) := by decide +kernel
theorem dL_shifts_270 : decode cL_shifts 270 = .ok (.invokestatic 52, 3) := by decide +kernel
theorem dL_shifts_273 : decode cL_shifts 273 = .ok (.iadd, 1) := by decide +kernel
theorem dL_shifts_274 : decode cL_shifts 274 = .ok (.istore 6, 2) := by decide +kernel
theorem dL_shifts_276 : decode cL_shifts 276 = .ok (.aload_n 0, 1) := by decide +kernel
theorem dL_shifts_277 : decode cL_shifts 277 = .ok (.iload 5, 2) := by decide +kernel
theorem dL_shifts_279 : decode cL_shifts 279 = .ok (.invokevirtual 26, 3) := by decide +kernel
theorem dL_shifts_282 : decode cL_shifts 282 = .ok (.istore 7, 2) := by decide +kernel
theorem dL_shifts_284 : decode cL_shifts 284 = .ok (.aload_n 0, 1) := by decide +kernel
theorem dL_shifts_285 : decode cL_shifts 285 = .ok (.iload 5, 2) := by decide +kernel
theorem dL_shifts_287 : decode cL_shifts 287 = .ok (.iload 6, 2) := by decide +kernel
theorem dL_shifts_289 : decode cL_shifts 289 = .ok (.invokevirtual 49, 3) := by decide +kernel
theorem dL_shifts_292 : decode cL_shifts 292 = .ok (.istore 8, 2) := by decide +kernel
theorem dL_shifts_294 : decode cL_shifts 294 = .ok (.iload 4, 2) := by decide +kernel
theorem dL_shifts_296 : decode cL_shifts 296 = .ok (.ifCond .eq 54, 3) := by decide +kernel
theorem dL_shifts_299 : decode cL_shifts 299 = .ok (.aload_n 0, 1) := by decide +kernel
theorem dL_shifts_300 : decode cL_shifts 300 = .ok (.iload 5, 2) := by decide +kernel
theorem dL_shifts_302 : decode cL_shifts 302 = .ok (.iload 6, 2) := by decide +kernel
theorem dL_shifts_304 : decode cL_shifts 304 = .ok (.invokevirtual 55, 3) := by decide +kernel
theorem dL_shifts_307 : decode cL_shifts 307 = .ok (.iload 7, 2) := by decide +kernel
theorem dL_shifts_309 : decode cL_shifts 309 = .ok (.iload 6, 2) := by decide +kernel
theorem dL_shifts_311 : decode cL_shifts 311 = .ok (.if_icmp .ne 8, 3) := by decide +kernel
theorem dL_shifts_314 : decode cL_shifts 314 = .ok (.bipush (-5), 2) := by decide +kernel
theorem dL_shifts_316 : decode cL_shifts 316 = .ok (.goto 5, 3) := by decide +kernel
theorem dL_shifts_319 : decode cL_shifts 319 = .ok (.iload 7, 2) := by decide +kernel
theorem dL_shifts_321 : decode cL_shifts 321 = .ok (.if_icmp .ne 29, 3) := by decide +kernel
theorem dL_shifts_324 : decode cL_shifts 324 = .ok (.aload_n 0, 1) := by decide +kernel
theorem dL_shifts_325 : decode cL_shifts 325 = .ok (.iload 5, 2) := by decide +kernel
theorem dL_shifts_327 : decode cL_shifts 327 = .ok (.invokevirtual 26, 3) := by decide +kernel
theorem dL_shifts_330 : decode cL_shifts 330 = .ok (.iload 6, 2) := by decide +kernel
theorem dL_shifts_332 : decode cL_shifts 332 = .ok (.if_icmp .ne 18, 3) := by decide +kernel
theorem dL_shifts_335 : decode cL_shifts 335 = .ok (.aload_n 0, 1) := by decide +kernel
theorem dL_shifts_336 : decode cL_shifts 336 = .ok (.bipush 11, 2) := by decide +kernel
theorem dL_shifts_338 : decode cL_shifts 338 = .ok (.invokevirtual 26, 3) := by decide +kernel
theorem dL_shifts_341 : decode cL_shifts 341 = .ok (.iload 8, 2) := by decide +kernel
theorem dL_shifts_343 : decode cL_shifts 343 = .ok (.if_icmp .ne 7, 3) := by decide +kernel
theorem dL_shifts_346 : decode cL_shifts 346 = .ok (.iconst 1, 1) := by decide +kernel
theorem dL_shifts_347 : decode cL_shifts 347 = .ok (.goto 4, 3) := by decide +kernel
theorem dL_shifts_350 : decode cL_shifts 350 = .ok (.iconst 0, 1) := by decide +kernel
theorem dL_shifts_351 : decode cL_shifts 351 = .ok (.ireturn, 1) := by decide +kernel
theorem dL_alone_0 : decode cL_alone 0 = .ok (.aload_n 0, 1) := by decide +kernel
theorem dL_alone_1 : decode cL_alone 1 = .ok (.bipush 8, 2) := by decide +kernel
theorem dL_alone_3 : decode cL_alone 3 = .ok (.invokevirtual 26, 3) := by decide +kernel
theorem dL_alone_6 : decode cL_alone 6 = .ok (.istore_n 2, 1) := by decide +kernel
theorem dL_alone_7 : decode cL_alone 7 = .ok (.aload_n 0, 1) := by decide +kernel
theorem dL_alone_8 : decode cL_alone 8 = .ok (.iconst 0, 1) := by decide +kernel
theorem dL_alone_9 : decode cL_alone 9 = .ok (.sipush 600, 3) := by decide +kernel
theorem dL_alone_12 : decode cL_alone 12 = .ok (.invokevirtual 58, 3) := by decide +kernel
theorem dL_alone_15 : decode cL_alone 15 = .ok (.istore_n 3, 1) := by decide +kernel
theorem dL_alone_16 : decode cL_alone 16 = .ok (.aload_n 0, 1) := by decide +kernel
theorem dL_alone_17 : decode cL_alone 17 = .ok (.iload_n 1, 1) := by decide +kernel
theorem dL_alone_18 : decode cL_alone 18 = .ok (.iload_n 1, 1) := by decide +kernel
theorem dL_alone_19 : decode cL_alone 19 = .ok (.iconst 0, 1) := by decide +kernel
theorem dL_alone_20 : decode cL_alone 20 = .ok (.invokevirtual 61, 3) := by decide +kernel
theorem dL_alone_23 : decode cL_alone 23 = .ok (.istore 4, 2) := by decide +kernel
theorem dL_alone_25 : decode cL_alone 25 = .ok (.iload_n 3, 1) := by decide +kernel
theorem dL_alone_26 : decode cL_alone 26 = .ok (.iload_n 2, 1) := by decide +kernel
theorem dL_alone_27 : decode cL_alone 27 = .ok (.if_icmp .ne 71, 3) := by decide +kernel
theorem dL_alone_30 : decode cL_alone 30 = .ok (.iload 4, 2) := by decide +kernel
theorem dL_alone_32 : decode cL_alone 32 = .ok (.aload_n 0, 1) := by decide +kernel
theorem dL_alone_33 : decode cL_alone 33 = .ok (.bipush 10, 2) := by decide +kernel
theorem dL_alone_35 : decode cL_alone 35 = .ok (.invokevirtual 26, 3) := by decide +kernel
theorem dL_alone_38 : decode cL_alone 38 = .ok (.if_icmp .ne 60, 3) := by decide +kernel
theorem dL_alone_41 : decode cL_alone 41 = .ok (.aload_n 0, 1) := by decide +kernel
theorem dL_alone_42 : decode cL_alone 42 = .ok (.iload_n 1, 1) := by decide +kernel
theorem dL_alone_43 : decode cL_alone 43 = .ok (.bipush 7, 2) := by decide +kernel
theorem dL_alone_45 : decode cL_alone 45 = .ok (.invokevirtual 10, 3) := by decide +kernel
theorem dL_alone_48 : decode cL_alone 48 = .ok (.bipush 100, 2) := by decide +kernel
theorem dL_alone_50 : decode cL_alone 50 = .ok (.if_icmp .ne 48, 3) := by decide +kernel
theorem dL_alone_53 : decode cL_alone 53 = .ok (.aload_n 0, 1) := by decide +kernel
theorem dL_alone_54 : decode cL_alone 54 = .ok (.iload_n 1, 1) := by decide +kernel
theorem dL_alone_55 : decode cL_alone 55 = .ok (.bipush 8, 2) := by decide +kernel
theorem dL_alone_57 : decode cL_alone 57 = .ok (.invokevirtual 10, 3) := by decide +kernel
theorem dL_alone_60 : decode cL_alone 60 = .ok (.aload_n 0, 1) := by decide +kernel
theorem dL_alone_61 : decode cL_alone 61 = .ok (.iload_n 1, 1) := by decide +kernel
theorem dL_alone_62 : decode cL_alone 62 = .ok (.iconst 0, 1) := by decide +kernel
theorem dL_alone_63 : decode cL_alone 63 = .ok (.invokevirtual 10, 3) := by decide +kernel
theorem dL_alone_66 : decode cL_alone 66 = .ok (.if_icmp .ne 32, 3) := by decide +kernel
theorem dL_alone_69 : decode cL_alone 69 = .ok (.aload_n 0, 1) := by decide +kernel
theorem dL_alone_70 : decode cL_alone 70 = .ok (.iload_n 1, 1) := by decide +kernel
theorem dL_alone_71 : decode cL_alone 71 = .ok (.bipush 9, 2) := by decide +kernel
theorem dL_alone_73 : decode cL_alone 73 = .ok (.invokevirtual 10, 3) := by decide +kernel
theorem dL_alone_76 : decode cL_alone 76 = .ok (.ifCond .ne 22, 3) := by decide +kernel
theorem dL_alone_79 : decode cL_alone 79 = .ok (.aload_n 0, 1) := by decide +kernel
theorem dL_alone_80 : decode cL_alone 80 = .ok (.bipush 8, 2) := by decide +kernel
theorem dL_alone_82 : decode cL_alone 82 = .ok (.invokevirtual 26, 3) := by decide +kernel
theorem dL_alone_85 : decode cL_alone 85 = .ok (.aload_n 0, 1) := by decide +kernel
theorem dL_alone_86 : decode cL_alone 86 = .ok (.iload_n 1, 1) := by decide +kernel
theorem dL_alone_87 : decode cL_alone 87 = .ok (.iconst 1, 1) := by decide +kernel
theorem dL_alone_88 : decode cL_alone 88 = .ok (.invokevirtual 10, 3) := by decide +kernel
theorem dL_alone_91 : decode cL_alone 91 = .ok (.if_icmp .ne 7, 3) := by decide +kernel
theorem dL_alone_94 : decode cL_alone 94 = .ok (.iconst 1, 1) := by decide +kernel
theorem dL_alone_95 : decode cL_alone 95 = .ok (.goto 4, 3) := by decide +kernel
theorem dL_alone_98 : decode cL_alone 98 = .ok (.iconst 0, 1) := by decide +kernel
theorem dL_alone_99 : decode cL_alone 99 = .ok (.istore 5, 2) := by decide +kernel
theorem dL_alone_101 : decode cL_alone 101 = .ok (.aload_n 0, 1) := by decide +kernel
theorem dL_alone_102 : decode cL_alone 102 = .ok (.iconst 0, 1) := by decide +kernel
theorem dL_alone_103 : decode cL_alone 103 = .ok (.aload_n 0, 1) := by decide +kernel
theorem dL_alone_104 : decode cL_alone 104 = .ok (.iconst 5, 1) := by decide +kernel
theorem dL_alone_105 : decode cL_alone 105 = .ok (.invokevirtual 26, 3) := by decide +kernel
theorem dL_alone_108 : decode cL_alone 108 = .ok (.iconst 1, 1) := by decide +kernel
theorem dL_alone_109 : decode cL_alone 109 = .ok (.isub, 1) := by decide +kernel
theorem dL_alone_110 : decode cL_alone 110 = .ok (.iconst 0, 1) := by decide +kernel
theorem dL_alone_111 : decode cL_alone 111 = .ok (.invokevirtual 61, 3) := by decide +kernel
theorem dL_alone_114 : decode cL_alone 114 = .ok (.istore 6, 2) := by decide +kernel
theorem dL_alone_116 : decode cL_alone 116 = .ok (.iload 5, 2) := by decide +kernel
theorem dL_alone_118 : decode cL_alone 118 = .ok (.ifCond .eq 37, 3) := by decide +kernel
theorem dL_alone_121 : decode cL_alone 121 = .ok (.iload 6, 2) := by decide +kernel
theorem dL_alone_123 : decode cL_alone 123 = .ok (.aload_n 0, 1) := by decide +kernel
theorem dL_alone_124 : decode cL_alone 124 = .ok (.bipush 10, 2) := by decide +kernel
theorem dL_alone_126 : decode cL_alone 126 = .ok (.invokevirtual 26, 3) := by decide +kernel
theorem dL_alone_129 : decode cL_alone 129 = .ok (.if_icmp .ne 26, 3) := by decide +kernel
theorem dL_alone_132 : decode cL_alone 132 = .ok (.aload_n 0, 1) := by decide +kernel
theorem dL_alone_133 : decode cL_alone 133 = .ok (.iconst 3, 1) := by decide +kernel
theorem dL_alone_134 : decode cL_alone 134 = .ok (.invokevirtual 26, 3) := by decide +kernel
theorem dL_alone_137 : decode cL_alone 137 = .ok (.iconst 1, 1) := by decide +kernel
theorem dL_alone_138 : decode cL_alone 138 = .ok (.if_icmp .eq 13, 3) := by decide +kernel
theorem dL_alone_141 : decode cL_alone 141 = .ok (.aload_n 0, 1) := by decide +kernel
theorem dL_alone_142 : decode cL_alone 142 = .ok (.iconst 0, 1) := by decide +kernel
theorem dL_alone_143 : decode cL_alone 143 = .ok (.bipush 60, 2) := by decide +kernel
theorem dL_alone_145 : decode cL_alone 145 = .ok (.invokevirtual 43, 3) := by decide +kernel
theorem dL_alone_148 : decode cL_alone 148 = .ok (.ifCond .lt 7, 3) := by decide +kernel
theorem dL_alone_151 : decode cL_alone 151 = .ok (.iconst 1, 1) := by decide +kernel
theorem dL_alone_152 : decode cL_alone 152 = .ok (.goto 4, 3) := by decide +kernel
theorem dL_alone_155 : decode cL_alone 155 = .ok (.iconst 0, 1) := by decide +kernel
theorem dL_alone_156 : decode cL_alone 156 = .ok (.istore 5, 2) := by decide +kernel
theorem dL_alone_158 : decode cL_alone 158 = .ok (.iload 5, 2) := by decide +kernel
theorem dL_alone_160 : decode cL_alone 160 = .ok (.ifCond .eq 38, 3) := by decide +kernel
theorem dL_alone_163 : decode cL_alone 163 = .ok (.aload_n 0, 1) := by decide +kernel
theorem dL_alone_164 : decode cL_alone 164 = .ok (.invokevirtual 65, 3) := by decide +kernel
theorem dL_alone_167 : decode cL_alone 167 = .ok (.ifCond .lt 31, 3) := by decide +kernel
theorem dL_alone_170 : decode cL_alone 170 = .ok (.aload_n 0, 1) := by decide +kernel
theorem dL_alone_171 : decode cL_alone 171 = .ok (.invokevirtual 65, 3) := by decide +kernel
theorem dL_alone_174 : decode cL_alone 174 = .ok (.ifCond .lt 24, 3) := by decide +kernel
theorem dL_alone_177 : decode cL_alone 177 = .ok (.aload_n 0, 1) := by decide +kernel
theorem dL_alone_178 : decode cL_alone 178 = .ok (.invokevirtual 65, 3) := by decide +kernel
theorem dL_alone_181 : decode cL_alone 181 = .ok (.ifCond .lt 17, 3) := by decide +kernel
theorem dL_alone_184 : decode cL_alone 184 = .ok (.aload_n 0, 1) := by decide +kernel
theorem dL_alone_185 : decode cL_alone 185 = .ok (.bipush 8, 2) := by decide +kernel
theorem dL_alone_187 : decode cL_alone 187 = .ok (.invokevirtual 26, 3) := by decide +kernel
theorem dL_alone_190 : decode cL_alone 190 = .ok (.iload_n 2, 1) := by decide +kernel
theorem dL_alone_191 : decode cL_alone 191 = .ok (.if_icmp .ne 7, 3) := by decide +kernel
theorem dL_alone_194 : decode cL_alone 194 = .ok (.iconst 1, 1) := by decide +kernel
theorem dL_alone_195 : decode cL_alone 195 = .ok (.goto 4, 3) := by decide +kernel
theorem dL_alone_198 : decode cL_alone 198 = .ok (.iconst 0, 1) := by decide +kernel
theorem dL_alone_199 : decode cL_alone 199 = .ok (.ireturn, 1) := by decide +kernel
theorem dL_octaves_0 : decode cL_octaves 0 = .ok (.aload_n 0, 1) := by decide +kernel
theorem dL_octaves_1 : decode cL_octaves 1 = .ok (.iconst 3, 1) := by decide +kernel
theorem dL_octaves_2 : decode cL_octaves 2 = .ok (.invokevirtual 26, 3) := by decide +kernel
theorem dL_octaves_5 : decode cL_octaves 5 = .ok (.iconst 1, 1) := by decide +kernel
theorem dL_octaves_6 : decode cL_octaves 6 = .ok (.if_icmp .ne 7, 3) := by decide +kernel
theorem dL_octaves_9 : decode cL_octaves 9 = .ok (.iconst 1, 1) := by decide +kernel
theorem dL_octaves_10 : decode cL_octaves 10 = .ok (.goto 4, 3) := by decide +kernel
theorem dL_octaves_13 : decode cL_octaves 13 = .ok (.iconst 0, 1) := by decide +kernel
theorem dL_octaves_14 : decode cL_octaves 14 = .ok (.istore_n 1, 1) := by decide +kernel
theorem dL_octaves_15 : decode cL_octaves 15 = .ok (.iconst 0, 1) := by decide +kernel
theorem dL_octaves_16 : decode cL_octaves 16 = .ok (.istore_n 2, 1) := by decide +kernel
theorem dL_octaves_17 : decode cL_octaves 17 = .ok (.iload_n 2, 1) := by decide +kernel
theorem dL_octaves_18 : decode cL_octaves 18 = .ok (.sipush 600, 3) := by decide +kernel
theorem dL_octaves_21 : decode cL_octaves 21 = .ok (.if_icmp .ge 32, 3) := by decide +kernel
theorem dL_octaves_24 : decode cL_octaves 24 = .ok (.iload_n 1, 1) := by decide +kernel
theorem dL_octaves_25 : decode cL_octaves 25 = .ok (.ifCond .eq 28, 3) := by decide +kernel
theorem dL_octaves_28 : decode cL_octaves 28 = .ok (.aload_n 0, 1) := by decide +kernel
theorem dL_octaves_29 : decode cL_octaves 29 = .ok (.iload_n 2, 1) := by decide +kernel
theorem dL_octaves_30 : decode cL_octaves 30 = .ok (.invokevirtual 23, 3) := by decide +kernel
theorem dL_octaves_33 : decode cL_octaves 33 = .ok (.bipush 12, 2) := by decide +kernel
theorem dL_octaves_35 : decode cL_octaves 35 = .ok (.iadd, 1) := by decide +kernel
theorem dL_octaves_36 : decode cL_octaves 36 = .ok (.bipush 60, 2) := by decide +kernel
theorem dL_octaves_38 : decode cL_octaves 38 = .ok (.if_icmp .gt 7, 3) := by decide +kernel
theorem dL_octaves_41 : decode cL_octaves 41 = .ok (.iconst 1, 1) := by decide +kernel
theorem dL_octaves_42 : decode cL_octaves 42 = .ok (.goto 4, 3) := by decide +kernel
theorem dL_octaves_45 : decode cL_octaves 45 = .ok (.iconst 0, 1) := by decide +kernel
theorem dL_octaves_46 : decode cL_octaves 46 = .ok (.istore_n 1, 1) := by decide +kernel
theorem dL_octaves_47 : decode cL_octaves 47 = .ok (.iinc 2 1, 3) := by decide +kernel
theorem dL_octaves_50 : decode cL_octaves 50 = .ok (.goto (-33), 3) := by decide +kernel
theorem dL_octaves_53 : decode cL_octaves 53 = .ok (.iload_n 1, 1) := by decide +kernel
theorem dL_octaves_54 : decode cL_octaves 54 = .ok (.ifCond .eq 19, 3) := by decide +kernel
theorem dL_octaves_57 : decode cL_octaves 57 = .ok (.aload_n 0, 1) := by decide +kernel
theorem dL_octaves_58 : decode cL_octaves 58 = .ok (.iconst 0, 1) := by decide +kernel
theorem dL_octaves_59 : decode cL_octaves 59 = .ok (.bipush 12, 2) := by decide +kernel
theorem dL_octaves_61 : decode cL_octaves 61 = .ok (.invokevirtual 43, 3) := by decide +kernel
theorem dL_octaves_64 : decode cL_octaves 64 = .ok (.aload_n 0, 1) := by decide +kernel
theorem dL_octaves_65 : decode cL_octaves 65 = .ok (.bipush 11, 2) := by decide +kernel
theorem dL_octaves_67 : decode cL_octaves 67 = .ok (.invokevirtual 26, 3) := by decide +kernel
theorem dL_octaves_70 : decode cL_octaves 70 = .ok (.if_icmp .ne 7, 3) := by decide +kernel
theorem dL_octaves_73 : decode cL_octaves 73 = .ok (.iconst 1, 1) := by decide +kernel
theorem dL_octaves_74 : decode cL_octaves 74 = .ok (.goto 4, 3) := by decide +kernel
theorem dL_octaves_77 : decode cL_octaves 77 = .ok (.iconst 0, 1) := by decide +kernel
theorem dL_octaves_78 : decode cL_octaves 78 = .ok (.ireturn, 1) := by decide +kernel
theorem dL_act_0 : decode cL_act 0 = .ok (.aload_n 0, 1) := by decide +kernel
theorem dL_act_1 : decode cL_act 1 = .ok (.iconst 5, 1) := by decide +kernel
theorem dL_act_2 : decode cL_act 2 = .ok (.invokevirtual 26, 3) := by decide +kernel
theorem dL_act_5 : decode cL_act 5 = .ok (.istore_n 3, 1) := by decide +kernel
theorem dL_act_6 : decode cL_act 6 = .ok (.iload_n 1, 1) := by decide +kernel
theorem dL_act_7 : decode cL_act 7 = .ok (.bipush 18, 2) := by decide +kernel
theorem dL_act_9 : decode cL_act 9 = .ok (.invokestatic 52, 3) := by decide +kernel
theorem dL_act_12 : decode cL_act 12 = .ok (.istore 4, 2) := by decide +kernel
theorem dL_act_14 : decode cL_act 14 = .ok (.iload 4, 2) := by decide +kernel
theorem dL_act_16 : decode cL_act 16 = .ok (.bipush 6, 2) := by decide +kernel
theorem dL_act_18 : decode cL_act 18 = .ok (.if_icmp .lt 7, 3) := by decide +kernel
theorem dL_act_21 : decode cL_act 21 = .ok (.iload_n 3, 1) := by decide +kernel
theorem dL_act_22 : decode cL_act 22 = .ok (.ifCond .ne 256, 3) := by decide +kernel
theorem dL_act_25 : decode cL_act 25 = .ok (.iload_n 1, 1) := by decide +kernel
theorem dL_act_26 : decode cL_act 26 = .ok (.bipush 6, 2) := by decide +kernel
theorem dL_act_28 : decode cL_act 28 = .ok (.ishr, 1) := by decide +kernel
theorem dL_act_29 : decode cL_act 29 = .ok (.iconst 3, 1) := by decide +kernel
theorem dL_act_30 : decode cL_act 30 = .ok (.invokestatic 52, 3) := by decide +kernel
theorem dL_act_33 : decode cL_act 33 = .ok (.ifCond .ne 15, 3) := by decide +kernel
theorem dL_act_36 : decode cL_act 36 = .ok (.iload_n 1, 1) := by decide +kernel
theorem dL_act_37 : decode cL_act 37 = .ok (.bipush 9, 2) := by decide +kernel
theorem dL_act_39 : decode cL_act 39 = .ok (.ishr, 1) := by decide +kernel
theorem dL_act_40 : decode cL_act 40 = .ok (.bipush 33, 2) := by decide +kernel
theorem dL_act_42 : decode cL_act 42 = .ok (.invokestatic 52, 3) := by decide +kernel
theorem dL_act_45 : decode cL_act 45 = .ok (.goto 4, 3) := by decide +kernel
theorem dL_act_48 : decode cL_act 48 = .ok (.iconst 0, 1) := by decide +kernel
theorem dL_act_49 : decode cL_act 49 = .ok (.istore 5, 2) := by decide +kernel
theorem dL_act_51 : decode cL_act 51 = .ok (.iload_n 2, 1) := by decide +kernel
theorem dL_act_52 : decode cL_act 52 = .ok (.bipush 61, 2) := by decide +kernel
theorem dL_act_54 : decode cL_act 54 = .ok (.invokestatic 52, 3) := by decide +kernel
theorem dL_act_57 : decode cL_act 57 = .ok (.istore 6, 2) := by decide +kernel
theorem dL_act_59 : decode cL_act 59 = .ok (.iload_n 2, 1) := by decide +kernel
theorem dL_act_60 : decode cL_act 60 = .ok (.bipush 6, 2) := by decide +kernel
theorem dL_act_62 : decode cL_act 62 = .ok (.ishr, 1) := by decide +kernel
theorem dL_act_63 : decode cL_act 63 = .ok (.iconst 3, 1) := by decide +kernel
theorem dL_act_64 : decode cL_act 64 = .ok (.invokestatic 52, 3) := by decide +kernel
theorem dL_act_67 : decode cL_act 67 = .ok (.ifCond .ne 15, 3) := by decide +kernel
theorem dL_act_70 : decode cL_act 70 = .ok (.iload_n 2, 1) := by decide +kernel
theorem dL_act_71 : decode cL_act 71 = .ok (.bipush 8, 2) := by decide +kernel
theorem dL_act_73 : decode cL_act 73 = .ok (.ishr, 1) := by decide +kernel
theorem dL_act_74 : decode cL_act 74 = .ok (.bipush 61, 2) := by decide +kernel
theorem dL_act_76 : decode cL_act 76 = .ok (.invokestatic 52, 3) := by decide +kernel
theorem dL_act_79 : decode cL_act 79 = .ok (.goto 5, 3) := by decide +kernel
theorem dL_act_82 : decode cL_act 82 = .ok (.iload 6, 2) := by decide +kernel
theorem dL_act_84 : decode cL_act 84 = .ok (.istore 7, 2) := by decide +kernel
theorem dL_act_86 : decode cL_act 86 = .ok (.iconst 1, 1) := by decide +kernel
theorem dL_act_87 : decode cL_act 87 = .ok (.iload_n 2, 1) := by decide +kernel
theorem dL_act_88 : decode cL_act 88 = .ok (.bipush 13, 2) := by decide +kernel
theorem dL_act_90 : decode cL_act 90 = .ok (.ishr, 1) := by decide +kernel
theorem dL_act_91 : decode cL_act 91 = .ok (.iload_n 2, 1) := by decide +kernel
theorem dL_act_92 : decode cL_act 92 = .ok (.bipush 19, 2) := by decide +kernel
theorem dL_act_94 : decode cL_act 94 = .ok (.ishr, 1) := by decide +kernel
theorem dL_act_95 : decode cL_act 95 = .ok (.iconst 2, 1) := by decide +kernel
theorem dL_act_96 : decode cL_act 96 = .ok (.invokestatic 52, 3) := by decide +kernel
theorem dL_act_99 : decode cL_act 99 = .ok (.ifCond .ne 8, 3) := by decide +kernel
theorem dL_act_102 : decode cL_act 102 = .ok (.bipush 32, 2) := by decide +kernel
theorem dL_act_104 : decode cL_act 104 = .ok (.goto 5, 3) := by decide +kernel
theorem dL_act_107 : decode cL_act 107 = .ok (.bipush 6, 2) := by decide +kernel
theorem dL_act_109 : decode cL_act 109 = .ok (.invokestatic 52, 3) := by decide +kernel
theorem dL_act_112 : decode cL_act 112 = .ok (.iadd, 1) := by decide +kernel
theorem dL_act_113 : decode cL_act 113 = .ok (.istore 8, 2) := by decide +kernel
theorem dL_act_115 : decode cL_act 115 = .ok (.iload_n 1, 1) := by decide +kernel
theorem dL_act_116 : decode cL_act 116 = .ok (.bipush 15, 2) := by decide +kernel
theorem dL_act_118 : decode cL_act 118 = .ok (.ishr, 1) := by decide +kernel
theorem dL_act_119 : decode cL_act 119 = .ok (.iconst 4, 1) := by decide +kernel
theorem dL_act_120 : decode cL_act 120 = .ok (.invokestatic 52, 3) := by decide +kernel
theorem dL_act_123 : decode cL_act 123 = .ok (.ifCond .ne 7, 3) := by decide +kernel
theorem dL_act_126 : decode cL_act 126 = .ok (.iconst 1, 1) := by decide +kernel
theorem dL_act_127 : decode cL_act 127 = .ok (.goto 4, 3) := by decide +kernel
theorem dL_act_130 : decode cL_act 130 = .ok (.iconst 0, 1) := by decide +kernel
theorem dL_act_131 : decode cL_act 131 = .ok (.istore 9, 2) := by decide +kernel
theorem dL_act_133 : decode cL_act 133 = .ok (.aload_n 0, 1) := by decide +kernel
theorem dL_act_134 : decode cL_act 134 = .ok (.bipush 7, 2) := by decide +kernel
theorem dL_act_136 : decode cL_act 136 = .ok (.invokevirtual 26, 3) := by decide +kernel
theorem dL_act_139 : decode cL_act 139 = .ok (.iload 5, 2) := by decide +kernel
theorem dL_act_141 : decode cL_act 141 = .ok (.iadd, 1) := by decide +kernel
theorem dL_act_142 : decode cL_act 142 = .ok (.istore 10, 2) := by decide +kernel
theorem dL_act_144 : decode cL_act 144 = .ok (.aload_n 0, 1) := by decide +kernel
theorem dL_act_145 : decode cL_act 145 = .ok (.iload 5, 2) := by decide +kernel
theorem dL_act_147 : decode cL_act 147 = .ok (.iload 6, 2) := by decide +kernel
theorem dL_act_149 : decode cL_act 149 = .ok (.iload 7, 2) := by decide +kernel
theorem dL_act_151 : decode cL_act 151 = .ok (.iload 8, 2) := by decide +kernel
theorem dL_act_153 : decode cL_act 153 = .ok (.iload 9, 2) := by decide +kernel
theorem dL_act_155 : decode cL_act 155 = .ok (.invokevirtual 68, 3) := by decide +kernel
theorem dL_act_158 : decode cL_act 158 = .ok (.istore 11, 2) := by decide +kernel
theorem dL_act_160 : decode cL_act 160 = .ok (.iload_n 3, 1) := by decide +kernel
theorem dL_act_161 : decode cL_act 161 = .ok (.bipush 40, 2) := by decide +kernel
theorem dL_act_163 : decode cL_act 163 = .ok (.if_icmp .eq 14, 3) := by decide +kernel
theorem dL_act_166 : decode cL_act 166 = .ok (.iload 10, 2) := by decide +kernel
theorem dL_act_168 : decode cL_act 168 = .ok (.iload 8, 2) := by decide +kernel
theorem dL_act_170 : decode cL_act 170 = .ok (.iadd, 1) := by decide +kernel
theorem dL_act_171 : decode cL_act 171 = .ok (.sipush 600, 3) := by decide +kernel
theorem dL_act_174 : decode cL_act 174 = .ok (.if_icmp .le 18, 3) := by decide +kernel
theorem dL_act_177 : decode cL_act 177 = .ok (.iload 11, 2) := by decide +kernel
theorem dL_act_179 : decode cL_act 179 = .ok (.bipush (-3), 2) := by decide +kernel
theorem dL_act_181 : decode cL_act 181 = .ok (.if_icmp .ne 7, 3) := by decide +kernel
theorem dL_act_184 : decode cL_act 184 = .ok (.iconst 1, 1) := by decide +kernel
theorem dL_act_185 : decode cL_act 185 = .ok (.goto 92, 3) := by decide +kernel
theorem dL_act_188 : decode cL_act 188 = .ok (.iconst 0, 1) := by decide +kernel
theorem dL_act_189 : decode cL_act 189 = .ok (.goto 88, 3) := by decide +kernel
theorem dL_act_192 : decode cL_act 192 = .ok (.iload 11, 2) := by decide +kernel
theorem dL_act_194 : decode cL_act 194 = .ok (.iload 10, 2) := by decide +kernel
theorem dL_act_196 : decode cL_act 196 = .ok (.if_icmp .ne 80, 3) := by decide +kernel
theorem dL_act_199 : decode cL_act 199 = .ok (.aload_n 0, 1) := by decide +kernel
theorem dL_act_200 : decode cL_act 200 = .ok (.iload_n 3, 1) := by decide +kernel
theorem dL_act_201 : decode cL_act 201 = .ok (.iconst 1, 1) := by decide +kernel
theorem dL_act_202 : decode cL_act 202 = .ok (.invokevirtual 10, 3) := by decide +kernel
theorem dL_act_205 : decode cL_act 205 = .ok (.iload 8, 2) := by decide +kernel
theorem dL_act_207 : decode cL_act 207 = .ok (.if_icmp .ne 69, 3) := by decide +kernel
theorem dL_act_210 : decode cL_act 210 = .ok (.aload_n 0, 1) := by decide +kernel
theorem dL_act_211 : decode cL_act 211 = .ok (.iload_n 3, 1) := by decide +kernel
theorem dL_act_212 : decode cL_act 212 = .ok (.iconst 2, 1) := by decide +kernel
theorem dL_act_213 : decode cL_act 213 = .ok (.invokevirtual 10, 3) := by decide +kernel
theorem dL_act_216 : decode cL_act 216 = .ok (.iload 6, 2) := by decide +kernel
theorem dL_act_218 : decode cL_act 218 = .ok (.if_icmp .ne 58, 3) := by decide +kernel
theorem dL_act_221 : decode cL_act 221 = .ok (.aload_n 0, 1) := by decide +kernel
theorem dL_act_222 : decode cL_act 222 = .ok (.iload_n 3, 1) := by decide +kernel
theorem dL_act_223 : decode cL_act 223 = .ok (.iconst 3, 1) := by decide +kernel
theorem dL_act_224 : decode cL_act 224 = .ok (.invokevirtual 10, 3) := by decide +kernel
theorem dL_act_227 : decode cL_act 227 = .ok (.iload 7, 2) := by decide +kernel
theorem dL_act_229 : decode cL_act 229 = .ok (.if_icmp .ne 47, 3) := by decide +kernel
theorem dL_act_232 : decode cL_act 232 = .ok (.aload_n 0, 1) := by decide +kernel
theorem dL_act_233 : decode cL_act 233 = .ok (.aload_n 0, 1) := by decide +kernel
theorem dL_act_234 : decode cL_act 234 = .ok (.iload_n 3, 1) := by decide +kernel
theorem dL_act_235 : decode cL_act 235 = .ok (.iconst 4, 1) := by decide +kernel
theorem dL_act_236 : decode cL_act 236 = .ok (.invokevirtual 10, 3) := by decide +kernel
theorem dL_act_239 : decode cL_act 239 = .ok (.iconst 0, 1) := by decide +kernel
theorem dL_act_240 : decode cL_act 240 = .ok (.invokevirtual 39, 3) := by decide +kernel
theorem dL_act_243 : decode cL_act 243 = .ok (.iload_n 3, 1) := by decide +kernel
theorem dL_act_244 : decode cL_act 244 = .ok (.ifCond .eq 8, 3) := by decide +kernel
theorem dL_act_247 : decode cL_act 247 = .ok (.iload 9, 2) := by decide +kernel
theorem dL_act_249 : decode cL_act 249 = .ok (.ifCond .eq 7, 3) := by decide +kernel
theorem dL_act_252 : decode cL_act 252 = .ok (.iload_n 3, 1) := by decide +kernel
theorem dL_act_253 : decode cL_act 253 = .ok (.goto 16, 3) := by decide +kernel
theorem dL_act_256 : decode cL_act 256 = .ok (.aload_n 0, 1) := by decide +kernel
theorem dL_act_257 : decode cL_act 257 = .ok (.aload_n 0, 1) := by decide +kernel
theorem dL_act_258 : decode cL_act 258 = .ok (.iload_n 3, 1) := by decide +kernel
theorem dL_act_259 : decode cL_act 259 = .ok (.iconst 1, 1) := by decide +kernel
theorem dL_act_260 : decode cL_act 260 = .ok (.isub, 1) := by decide +kernel
theorem dL_act_261 : decode cL_act 261 = .ok (.iconst 4, 1) := by decide +kernel
theorem dL_act_262 : decode cL_act 262 = .ok (.invokevirtual 10, 3) := by decide +kernel
theorem dL_act_265 : decode cL_act 265 = .ok (.iconst 0, 1) := by decide +kernel
theorem dL_act_266 : decode cL_act 266 = .ok (.invokevirtual 39, 3) := by decide +kernel
theorem dL_act_269 : decode cL_act 269 = .ok (.if_icmp .ne 7, 3) := by decide +kernel
theorem dL_act_272 : decode cL_act 272 = .ok (.iconst 1, 1) := by decide +kernel
theorem dL_act_273 : decode cL_act 273 = .ok (.goto 4, 3) := by decide +kernel
theorem dL_act_276 : decode cL_act 276 = .ok (.iconst 0, 1) := by decide +kernel
theorem dL_act_277 : decode cL_act 277 = .ok (.ireturn, 1) := by decide +kernel
theorem dL_act_278 : decode cL_act 278 = .ok (.iload_n 2, 1) := by decide +kernel
theorem dL_act_279 : decode cL_act 279 = .ok (.iload_n 3, 1) := by decide +kernel
theorem dL_act_280 : decode cL_act 280 = .ok (.invokestatic 52, 3) := by decide +kernel
theorem dL_act_283 : decode cL_act 283 = .ok (.istore 5, 2) := by decide +kernel
theorem dL_act_285 : decode cL_act 285 = .ok (.iload 4, 2) := by decide +kernel
theorem dL_act_287 : decode cL_act 287 = .ok (.bipush 6, 2) := by decide +kernel
theorem dL_act_289 : decode cL_act 289 = .ok (.if_icmp .ne 31, 3) := by decide +kernel
theorem dL_act_292 : decode cL_act 292 = .ok (.aload_n 0, 1) := by decide +kernel
theorem dL_act_293 : decode cL_act 293 = .ok (.invokevirtual 72, 3) := by decide +kernel
theorem dL_act_296 : decode cL_act 296 = .ok (.iload_n 3, 1) := by decide +kernel
theorem dL_act_297 : decode cL_act 297 = .ok (.iconst 1, 1) := by decide +kernel
theorem dL_act_298 : decode cL_act 298 = .ok (.isub, 1) := by decide +kernel
theorem dL_act_299 : decode cL_act 299 = .ok (.if_icmp .ne 19, 3) := by decide +kernel
theorem dL_act_302 : decode cL_act 302 = .ok (.aload_n 0, 1) := by decide +kernel
theorem dL_act_303 : decode cL_act 303 = .ok (.iload_n 3, 1) := by decide +kernel
theorem dL_act_304 : decode cL_act 304 = .ok (.iconst 1, 1) := by decide +kernel
theorem dL_act_305 : decode cL_act 305 = .ok (.isub, 1) := by decide +kernel
theorem dL_act_306 : decode cL_act 306 = .ok (.iconst 0, 1) := by decide +kernel
theorem dL_act_307 : decode cL_act 307 = .ok (.invokevirtual 10, 3) := by decide +kernel
theorem dL_act_310 : decode cL_act 310 = .ok (.iconst (-1), 1) := by decide +kernel
theorem dL_act_311 : decode cL_act 311 = .ok (.if_icmp .ne 7, 3) := by decide +kernel
theorem dL_act_314 : decode cL_act 314 = .ok (.iconst 1, 1) := by decide +kernel
theorem dL_act_315 : decode cL_act 315 = .ok (.goto 4, 3) := by decide +kernel
theorem dL_act_318 : decode cL_act 318 = .ok (.iconst 0, 1) := by decide +kernel
theorem dL_act_319 : decode cL_act 319 = .ok (.ireturn, 1) := by decide +kernel
theorem dL_act_320 : decode cL_act 320 = .ok (.iload 4, 2) := by decide +kernel
theorem dL_act_322 : decode cL_act 322 = .ok (.bipush 11, 2) := by decide +kernel
theorem dL_act_324 : decode cL_act 324 = .ok (.if_icmp .ge 162, 3) := by decide +kernel
theorem dL_act_327 : decode cL_act 327 = .ok (.iload_n 2, 1) := by decide +kernel
theorem dL_act_328 : decode cL_act 328 = .ok (.bipush 9, 2) := by decide +kernel
theorem dL_act_330 : decode cL_act 330 = .ok (.ishr, 1) := by decide +kernel
theorem dL_act_331 : decode cL_act 331 = .ok (.iconst 2, 1) := by decide +kernel
theorem dL_act_332 : decode cL_act 332 = .ok (.invokestatic 52, 3) := by decide +kernel
theorem dL_act_335 : decode cL_act 335 = .ok (.ifCond .ne 8, 3) := by decide +kernel
theorem dL_act_338 : decode cL_act 338 = .ok (.iload 5, 2) := by decide +kernel
theorem dL_act_340 : decode cL_act 340 = .ok (.goto 17, 3) := by decide +kernel
theorem dL_act_343 : decode cL_act 343 = .ok (.iload 5, 2) := by decide +kernel
theorem dL_act_345 : decode cL_act 345 = .ok (.iload_n 2, 1) := by decide +kernel
theorem dL_act_346 : decode cL_act 346 = .ok (.bipush 10, 2) := by decide +kernel
theorem dL_act_348 : decode cL_act 348 = .ok (.ishr, 1) := by decide +kernel
theorem dL_act_349 : decode cL_act 349 = .ok (.iload_n 3, 1) := by decide +kernel
theorem dL_act_350 : decode cL_act 350 = .ok (.iload 5, 2) := by decide +kernel
theorem dL_act_352 : decode cL_act 352 = .ok (.isub, 1) := by decide +kernel
theorem dL_act_353 : decode cL_act 353 = .ok (.invokestatic 52, 3) := by decide +kernel
theorem dL_act_356 : decode cL_act 356 = .ok (.iadd, 1) := by decide +kernel
theorem dL_act_357 : decode cL_act 357 = .ok (.istore 6, 2) := by decide +kernel
theorem dL_act_359 : decode cL_act 359 = .ok (.iload_n 1, 1) := by decide +kernel
theorem dL_act_360 : decode cL_act 360 = .ok (.bipush 6, 2) := by decide +kernel
theorem dL_act_362 : decode cL_act 362 = .ok (.ishr, 1) := by decide +kernel
theorem dL_act_363 : decode cL_act 363 = .ok (.iconst 3, 1) := by decide +kernel
theorem dL_act_364 : decode cL_act 364 = .ok (.invokestatic 52, 3) := by decide +kernel
theorem dL_act_367 : decode cL_act 367 = .ok (.ifCond .le 7, 3) := by decide +kernel
theorem dL_act_370 : decode cL_act 370 = .ok (.iconst 0, 1) := by decide +kernel
theorem dL_act_371 : decode cL_act 371 = .ok (.goto 39, 3) := by decide +kernel
theorem dL_act_374 : decode cL_act 374 = .ok (.iload_n 1, 1) := by decide +kernel
theorem dL_act_375 : decode cL_act 375 = .ok (.bipush 8, 2) := by decide +kernel
theorem dL_act_377 : decode cL_act 377 = .ok (.ishr, 1) := by decide +kernel
theorem dL_act_378 : decode cL_act 378 = .ok (.iconst 2, 1) := by decide +kernel
theorem dL_act_379 : decode cL_act 379 = .ok (.invokestatic 52, 3) := by decide +kernel
theorem dL_act_382 : decode cL_act 382 = .ok (.ifCond .ne 16, 3) := by decide +kernel
theorem dL_act_385 : decode cL_act 385 = .ok (.iload_n 1, 1) := by decide +kernel
theorem dL_act_386 : decode cL_act 386 = .ok (.bipush 9, 2) := by decide +kernel
theorem dL_act_388 : decode cL_act 388 = .ok (.ishr, 1) := by decide +kernel
theorem dL_act_389 : decode cL_act 389 = .ok (.iconst 3, 1) := by decide +kernel
theorem dL_act_390 : decode cL_act 390 = .ok (.invokestatic 52, 3) := by decide +kernel
theorem dL_act_393 : decode cL_act 393 = .ok (.iconst 1, 1) := by decide +kernel
theorem dL_act_394 : decode cL_act 394 = .ok (.isub, 1) := by decide +kernel
theorem dL_act_395 : decode cL_act 395 = .ok (.goto 15, 3) := by decide +kernel
theorem dL_act_398 : decode cL_act 398 = .ok (.iload_n 1, 1) := by decide +kernel
theorem dL_act_399 : decode cL_act 399 = .ok (.bipush 9, 2) := by decide +kernel
theorem dL_act_401 : decode cL_act 401 = .ok (.ishr, 1) := by decide +kernel
theorem dL_act_402 : decode cL_act 402 = .ok (.bipush 121, 2) := by decide +kernel
theorem dL_act_404 : decode cL_act 404 = .ok (.invokestatic 52, 3) := by decide +kernel
theorem dL_act_407 : decode cL_act 407 = .ok (.bipush 60, 2) := by decide +kernel
theorem dL_act_409 : decode cL_act 409 = .ok (.isub, 1) := by decide +kernel
theorem dL_act_410 : decode cL_act 410 = .ok (.istore 7, 2) := by decide +kernel
theorem dL_act_412 : decode cL_act 412 = .ok (.aload_n 0, 1) := by decide +kernel
theorem dL_act_413 : decode cL_act 413 = .ok (.aload_n 0, 1) := by decide +kernel
theorem dL_act_414 : decode cL_act 414 = .ok (.iload 6, 2) := by decide +kernel
theorem dL_act_416 : decode cL_act 416 = .ok (.iconst 0, 1) := by decide +kernel
theorem dL_act_417 : decode cL_act 417 = .ok (.invokevirtual 10, 3) := by decide +kernel
theorem dL_act_420 : decode cL_act 420 = .ok (.invokevirtual 19, 3) := by decide +kernel
theorem dL_act_423 : decode cL_act 423 = .ok (.iload 7, 2) := by decide +kernel
theorem dL_act_425 : decode cL_act 425 = .ok (.iadd, 1) := by decide +kernel
theorem dL_act_426 : decode cL_act 426 = .ok (.istore 8, 2) := by decide +kernel
theorem dL_act_428 : decode cL_act 428 = .ok (.aload_n 0, 1) := by decide +kernel
theorem dL_act_429 : decode cL_act 429 = .ok (.iload 5, 2) := by decide +kernel
theorem dL_act_431 : decode cL_act 431 = .ok (.iload 6, 2) := by decide +kernel
theorem dL_act_433 : decode cL_act 433 = .ok (.iload 7, 2) := by decide +kernel
theorem dL_act_435 : decode cL_act 435 = .ok (.invokevirtual 61, 3) := by decide +kernel
theorem dL_act_438 : decode cL_act 438 = .ok (.aload_n 0, 1) := by decide +kernel
theorem dL_act_439 : decode cL_act 439 = .ok (.bipush 10, 2) := by decide +kernel
theorem dL_act_441 : decode cL_act 441 = .ok (.invokevirtual 26, 3) := by decide +kernel
theorem dL_act_444 : decode cL_act 444 = .ok (.if_icmp .ne 40, 3) := by decide +kernel
theorem dL_act_447 : decode cL_act 447 = .ok (.aload_n 0, 1) := by decide +kernel
theorem dL_act_448 : decode cL_act 448 = .ok (.aload_n 0, 1) := by decide +kernel
theorem dL_act_449 : decode cL_act 449 = .ok (.iload 6, 2) := by decide +kernel
theorem dL_act_451 : decode cL_act 451 = .ok (.iconst 0, 1) := by decide +kernel
theorem dL_act_452 : decode cL_act 452 = .ok (.invokevirtual 10, 3) := by decide +kernel
theorem dL_act_455 : decode cL_act 455 = .ok (.invokevirtual 23, 3) := by decide +kernel
theorem dL_act_458 : decode cL_act 458 = .ok (.iload 8, 2) := by decide +kernel
theorem dL_act_460 : decode cL_act 460 = .ok (.ifCond .lt 10, 3) := by decide +kernel
theorem dL_act_463 : decode cL_act 463 = .ok (.iload 8, 2) := by decide +kernel
theorem dL_act_465 : decode cL_act 465 = .ok (.bipush 60, 2) := by decide +kernel
theorem dL_act_467 : decode cL_act 467 = .ok (.if_icmp .le 8, 3) := by decide +kernel
theorem dL_act_470 : decode cL_act 470 = .ok (.bipush (-5), 2) := by decide +kernel
theorem dL_act_472 : decode cL_act 472 = .ok (.goto 5, 3) := by decide +kernel
theorem dL_act_475 : decode cL_act 475 = .ok (.iload 8, 2) := by decide +kernel
theorem dL_act_477 : decode cL_act 477 = .ok (.if_icmp .ne 7, 3) := by decide +kernel
theorem dL_act_480 : decode cL_act 480 = .ok (.iconst 1, 1) := by decide +kernel
theorem dL_act_481 : decode cL_act 481 = .ok (.goto 4, 3) := by decide +kernel
theorem dL_act_484 : decode cL_act 484 = .ok (.iconst 0, 1) := by decide +kernel
theorem dL_act_485 : decode cL_act 485 = .ok (.ireturn, 1) := by decide +kernel
theorem dL_act_486 : decode cL_act 486 = .ok (.iload 4, 2) := by decide +kernel
theorem dL_act_488 : decode cL_act 488 = .ok (.bipush 13, 2) := by decide +kernel
theorem dL_act_490 : decode cL_act 490 = .ok (.if_icmp .ge 133, 3) := by decide +kernel
theorem dL_act_493 : decode cL_act 493 = .ok (.iload_n 2, 1) := by decide +kernel
theorem dL_act_494 : decode cL_act 494 = .ok (.sipush 600, 3) := by decide +kernel
theorem dL_act_497 : decode cL_act 497 = .ok (.invokestatic 52, 3) := by decide +kernel
theorem dL_act_500 : decode cL_act 500 = .ok (.istore 6, 2) := by decide +kernel
theorem dL_act_502 : decode cL_act 502 = .ok (.iconst 1, 1) := by decide +kernel
theorem dL_act_503 : decode cL_act 503 = .ok (.iload_n 2, 1) := by decide +kernel
theorem dL_act_504 : decode cL_act 504 = .ok (.bipush 9, 2) := by decide +kernel
theorem dL_act_506 : decode cL_act 506 = .ok (.ishr, 1) := by decide +kernel
theorem dL_act_507 : decode cL_act 507 = .ok (.bipush 64, 2) := by decide +kernel
theorem dL_act_509 : decode cL_act 509 = .ok (.invokestatic 52, 3) := by decide +kernel
theorem dL_act_512 : decode cL_act 512 = .ok (.iadd, 1) := by decide +kernel
theorem dL_act_513 : decode cL_act 513 = .ok (.istore 7, 2) := by decide +kernel
theorem dL_act_515 : decode cL_act 515 = .ok (.iload_n 1, 1) := by decide +kernel
theorem dL_act_516 : decode cL_act 516 = .ok (.bipush 7, 2) := by decide +kernel
theorem dL_act_518 : decode cL_act 518 = .ok (.ishr, 1) := by decide +kernel
theorem dL_act_519 : decode cL_act 519 = .ok (.bipush 61, 2) := by decide +kernel
theorem dL_act_521 : decode cL_act 521 = .ok (.invokestatic 52, 3) := by decide +kernel
theorem dL_act_524 : decode cL_act 524 = .ok (.istore 8, 2) := by decide +kernel
theorem dL_act_526 : decode cL_act 526 = .ok (.iload 6, 2) := by decide +kernel
theorem dL_act_528 : decode cL_act 528 = .ok (.iload 7, 2) := by decide +kernel
theorem dL_act_530 : decode cL_act 530 = .ok (.iadd, 1) := by decide +kernel
theorem dL_act_531 : decode cL_act 531 = .ok (.sipush 600, 3) := by decide +kernel
theorem dL_act_534 : decode cL_act 534 = .ok (.if_icmp .le 37, 3) := by decide +kernel
theorem dL_act_537 : decode cL_act 537 = .ok (.aload_n 0, 1) := by decide +kernel
theorem dL_act_538 : decode cL_act 538 = .ok (.iload 6, 2) := by decide +kernel
theorem dL_act_540 : decode cL_act 540 = .ok (.iload 7, 2) := by decide +kernel
theorem dL_act_542 : decode cL_act 542 = .ok (.iload 8, 2) := by decide +kernel
theorem dL_act_544 : decode cL_act 544 = .ok (.invokevirtual 75, 3) := by decide +kernel
theorem dL_act_547 : decode cL_act 547 = .ok (.bipush (-2), 2) := by decide +kernel
theorem dL_act_549 : decode cL_act 549 = .ok (.if_icmp .ne 20, 3) := by decide +kernel
theorem dL_act_552 : decode cL_act 552 = .ok (.aload_n 0, 1) := by decide +kernel
theorem dL_act_553 : decode cL_act 553 = .ok (.iload 6, 2) := by decide +kernel
theorem dL_act_555 : decode cL_act 555 = .ok (.iload 7, 2) := by decide +kernel
theorem dL_act_557 : decode cL_act 557 = .ok (.invokevirtual 58, 3) := by decide +kernel
theorem dL_act_560 : decode cL_act 560 = .ok (.bipush (-2), 2) := by decide +kernel
theorem dL_act_562 : decode cL_act 562 = .ok (.if_icmp .ne 7, 3) := by decide +kernel
theorem dL_act_565 : decode cL_act 565 = .ok (.iconst 1, 1) := by decide +kernel
theorem dL_act_566 : decode cL_act 566 = .ok (.goto 4, 3) := by decide +kernel
theorem dL_act_569 : decode cL_act 569 = .ok (.iconst 0, 1) := by decide +kernel
theorem dL_act_570 : decode cL_act 570 = .ok (.ireturn, 1) := by decide +kernel
theorem dL_act_571 : decode cL_act 571 = .ok (.aload_n 0, 1) := by decide +kernel
theorem dL_act_572 : decode cL_act 572 = .ok (.iload 6, 2) := by decide +kernel
theorem dL_act_574 : decode cL_act 574 = .ok (.iload 7, 2) := by decide +kernel
theorem dL_act_576 : decode cL_act 576 = .ok (.iload 8, 2) := by decide +kernel
theorem dL_act_578 : decode cL_act 578 = .ok (.invokevirtual 75, 3) := by decide +kernel
theorem dL_act_581 : decode cL_act 581 = .ok (.aload_n 0, 1) := by decide +kernel
theorem dL_act_582 : decode cL_act 582 = .ok (.bipush 10, 2) := by decide +kernel
theorem dL_act_584 : decode cL_act 584 = .ok (.invokevirtual 26, 3) := by decide +kernel
theorem dL_act_587 : decode cL_act 587 = .ok (.if_icmp .ne 34, 3) := by decide +kernel
theorem dL_act_590 : decode cL_act 590 = .ok (.aload_n 0, 1) := by decide +kernel
theorem dL_act_591 : decode cL_act 591 = .ok (.iload 6, 2) := by decide +kernel
theorem dL_act_593 : decode cL_act 593 = .ok (.invokevirtual 23, 3) := by decide +kernel
theorem dL_act_596 : decode cL_act 596 = .ok (.iload 8, 2) := by decide +kernel
theorem dL_act_598 : decode cL_act 598 = .ok (.if_icmp .ne 23, 3) := by decide +kernel
theorem dL_act_601 : decode cL_act 601 = .ok (.aload_n 0, 1) := by decide +kernel
theorem dL_act_602 : decode cL_act 602 = .ok (.iload 6, 2) := by decide +kernel
theorem dL_act_604 : decode cL_act 604 = .ok (.iload 7, 2) := by decide +kernel
theorem dL_act_606 : decode cL_act 606 = .ok (.iadd, 1) := by decide +kernel
theorem dL_act_607 : decode cL_act 607 = .ok (.iconst 1, 1) := by decide +kernel
theorem dL_act_608 : decode cL_act 608 = .ok (.isub, 1) := by decide +kernel
theorem dL_act_609 : decode cL_act 609 = .ok (.invokevirtual 23, 3) := by decide +kernel
theorem dL_act_612 : decode cL_act 612 = .ok (.iload 8, 2) := by decide +kernel
theorem dL_act_614 : decode cL_act 614 = .ok (.if_icmp .ne 7, 3) := by decide +kernel
theorem dL_act_617 : decode cL_act 617 = .ok (.iconst 1, 1) := by decide +kernel
theorem dL_act_618 : decode cL_act 618 = .ok (.goto 4, 3) := by decide +kernel
theorem dL_act_621 : decode cL_act 621 = .ok (.iconst 0, 1) := by decide +kernel
theorem dL_act_622 : decode cL_act 622 = .ok (.ireturn, 1) := by decide +kernel
theorem dL_act_623 : decode cL_act 623 = .ok (.iload 4, 2) := by decide +kernel
theorem dL_act_625 : decode cL_act 625 = .ok (.bipush 13, 2) := by decide +kernel
theorem dL_act_627 : decode cL_act 627 = .ok (.if_icmp .ne 62, 3) := by decide +kernel
theorem dL_act_630 : decode cL_act 630 = .ok (.aload_n 0, 1) := by decide +kernel
theorem dL_act_631 : decode cL_act 631 = .ok (.bipush 8, 2) := by decide +kernel
theorem dL_act_633 : decode cL_act 633 = .ok (.invokevirtual 26, 3) := by decide +kernel
theorem dL_act_636 : decode cL_act 636 = .ok (.istore 6, 2) := by decide +kernel
theorem dL_act_638 : decode cL_act 638 = .ok (.aload_n 0, 1) := by decide +kernel
theorem dL_act_639 : decode cL_act 639 = .ok (.bipush 8, 2) := by decide +kernel
theorem dL_act_641 : decode cL_act 641 = .ok (.invokevirtual 26, 3) := by decide +kernel
theorem dL_act_644 : decode cL_act 644 = .ok (.iload 6, 2) := by decide +kernel
theorem dL_act_646 : decode cL_act 646 = .ok (.if_icmp .ne 41, 3) := by decide +kernel
theorem dL_act_649 : decode cL_act 649 = .ok (.aload_n 0, 1) := by decide +kernel
theorem dL_act_650 : decode cL_act 650 = .ok (.iload_n 2, 1) := by decide +kernel
theorem dL_act_651 : decode cL_act 651 = .ok (.sipush 500, 3) := by decide +kernel
theorem dL_act_654 : decode cL_act 654 = .ok (.invokestatic 52, 3) := by decide +kernel
theorem dL_act_657 : decode cL_act 657 = .ok (.iconst 1, 1) := by decide +kernel
theorem dL_act_658 : decode cL_act 658 = .ok (.iload_n 2, 1) := by decide +kernel
theorem dL_act_659 : decode cL_act 659 = .ok (.bipush 9, 2) := by decide +kernel
theorem dL_act_661 : decode cL_act 661 = .ok (.ishr, 1) := by decide +kernel
theorem dL_act_662 : decode cL_act 662 = .ok (.bipush 100, 2) := by decide +kernel
theorem dL_act_664 : decode cL_act 664 = .ok (.invokestatic 52, 3) := by decide +kernel
theorem dL_act_667 : decode cL_act 667 = .ok (.iadd, 1) := by decide +kernel
theorem dL_act_668 : decode cL_act 668 = .ok (.invokevirtual 58, 3) := by decide +kernel
theorem dL_act_671 : decode cL_act 671 = .ok (.iload 6, 2) := by decide +kernel
theorem dL_act_673 : decode cL_act 673 = .ok (.aload_n 0, 1) := by decide +kernel
theorem dL_act_674 : decode cL_act 674 = .ok (.bipush 8, 2) := by decide +kernel
theorem dL_act_676 : decode cL_act 676 = .ok (.invokevirtual 26, 3) := by decide +kernel
theorem dL_act_679 : decode cL_act 679 = .ok (.isub, 1) := by decide +kernel
theorem dL_act_680 : decode cL_act 680 = .ok (.if_icmp .ne 7, 3) := by decide +kernel
theorem dL_act_683 : decode cL_act 683 = .ok (.iconst 1, 1) := by decide +kernel
theorem dL_act_684 : decode cL_act 684 = .ok (.goto 4, 3) := by decide +kernel
theorem dL_act_687 : decode cL_act 687 = .ok (.iconst 0, 1) := by decide +kernel
theorem dL_act_688 : decode cL_act 688 = .ok (.ireturn, 1) := by decide +kernel
theorem dL_act_689 : decode cL_act 689 = .ok (.iload 4, 2) := by decide +kernel
theorem dL_act_691 : decode cL_act 691 = .ok (.bipush 14, 2) := by decide +kernel
theorem dL_act_693 : decode cL_act 693 = .ok (.if_icmp .ne 10, 3) := by decide +kernel
theorem dL_act_696 : decode cL_act 696 = .ok (.aload_n 0, 1) := by decide +kernel
theorem dL_act_697 : decode cL_act 697 = .ok (.iload 5, 2) := by decide +kernel
theorem dL_act_699 : decode cL_act 699 = .ok (.invokestatic 78, 3) := by decide +kernel
theorem dL_act_702 : decode cL_act 702 = .ok (.ireturn, 1) := by decide +kernel
theorem dL_act_703 : decode cL_act 703 = .ok (.iload 4, 2) := by decide +kernel
theorem dL_act_705 : decode cL_act 705 = .ok (.bipush 15, 2) := by decide +kernel
theorem dL_act_707 : decode cL_act 707 = .ok (.if_icmp .ne 10, 3) := by decide +kernel
theorem dL_act_710 : decode cL_act 710 = .ok (.aload_n 0, 1) := by decide +kernel
theorem dL_act_711 : decode cL_act 711 = .ok (.invokestatic 81, 3) := by decide +kernel
theorem dL_act_714 : decode cL_act 714 = .ok (.goto 29, 3) := by decide +kernel
theorem dL_act_717 : decode cL_act 717 = .ok (.iload_n 2, 1) := by decide +kernel
theorem dL_act_718 : decode cL_act 718 = .ok (.iconst 5, 1) := by decide +kernel
theorem dL_act_719 : decode cL_act 719 = .ok (.ishr, 1) := by decide +kernel
theorem dL_act_720 : decode cL_act 720 = .ok (.iconst 3, 1) := by decide +kernel
theorem dL_act_721 : decode cL_act 721 = .ok (.invokestatic 52, 3) := by decide +kernel
theorem dL_act_724 : decode cL_act 724 = .ok (.ifCond .gt 14, 3) := by decide +kernel
theorem dL_act_727 : decode cL_act 727 = .ok (.aload_n 0, 1) := by decide +kernel
theorem dL_act_728 : decode cL_act 728 = .ok (.iload_n 2, 1) := by decide +kernel
theorem dL_act_729 : decode cL_act 729 = .ok (.bipush 7, 2) := by decide +kernel
theorem dL_act_731 : decode cL_act 731 = .ok (.ishr, 1) := by decide +kernel
theorem dL_act_732 : decode cL_act 732 = .ok (.invokestatic 85, 3) := by decide +kernel
theorem dL_act_735 : decode cL_act 735 = .ok (.ifCond .eq 7, 3) := by decide +kernel
theorem dL_act_738 : decode cL_act 738 = .ok (.iconst 1, 1) := by decide +kernel
theorem dL_act_739 : decode cL_act 739 = .ok (.goto 4, 3) := by decide +kernel
theorem dL_act_742 : decode cL_act 742 = .ok (.iconst 0, 1) := by decide +kernel
theorem dL_act_743 : decode cL_act 743 = .ok (.ireturn, 1) := by decide +kernel
theorem dL_law_0 : decode cL_law 0 = .ok (.new 11, 3) := by decide +kernel
theorem dL_law_3 : decode cL_law 3 = .ok (.dup, 1) := by decide +kernel
theorem dL_law_4 : decode cL_law 4 = .ok (.invokespecial 88, 3) := by decide +kernel
theorem dL_law_7 : decode cL_law 7 = .ok (.astore_n 1, 1) := by decide +kernel
theorem dL_law_8 : decode cL_law 8 = .ok (.aload_n 1, 1) := by decide +kernel
theorem dL_law_9 : decode cL_law 9 = .ok (.invokestatic 89, 3) := by decide +kernel
theorem dL_law_12 : decode cL_law 12 = .ok (.ifCond .eq 21, 3) := by decide +kernel
theorem dL_law_15 : decode cL_law 15 = .ok (.aload_n 1, 1) := by decide +kernel
theorem dL_law_16 : decode cL_law 16 = .ok (.invokevirtual 46, 3) := by decide +kernel
theorem dL_law_19 : decode cL_law 19 = .ok (.bipush 32, 2) := by decide +kernel
theorem dL_law_21 : decode cL_law 21 = .ok (.if_icmp .ne 12, 3) := by decide +kernel
theorem dL_law_24 : decode cL_law 24 = .ok (.aload_n 1, 1) := by decide +kernel
theorem dL_law_25 : decode cL_law 25 = .ok (.bipush 12, 2) := by decide +kernel
theorem dL_law_27 : decode cL_law 27 = .ok (.invokevirtual 26, 3) := by decide +kernel
theorem dL_law_30 : decode cL_law 30 = .ok (.ifCond .eq 5, 3) := by decide +kernel
theorem dL_law_33 : decode cL_law 33 = .ok (.iconst 0, 1) := by decide +kernel
theorem dL_law_34 : decode cL_law 34 = .ok (.ireturn, 1) := by decide +kernel
theorem dL_law_35 : decode cL_law 35 = .ok (.iconst 0, 1) := by decide +kernel
theorem dL_law_36 : decode cL_law 36 = .ok (.istore_n 2, 1) := by decide +kernel
theorem dL_law_37 : decode cL_law 37 = .ok (.iload_n 2, 1) := by decide +kernel
theorem dL_law_38 : decode cL_law 38 = .ok (.bipush 30, 2) := by decide +kernel
theorem dL_law_40 : decode cL_law 40 = .ok (.if_icmp .ge 74, 3) := by decide +kernel
theorem dL_law_43 : decode cL_law 43 = .ok (.iload_n 2, 1) := by decide +kernel
theorem dL_law_44 : decode cL_law 44 = .ok (.iconst 5, 1) := by decide +kernel
theorem dL_law_45 : decode cL_law 45 = .ok (.if_icmp .ge 22, 3) := by decide +kernel
theorem dL_law_48 : decode cL_law 48 = .ok (.bipush 18, 2) := by decide +kernel
theorem dL_law_50 : decode cL_law 50 = .ok (.aload_n 0, 1) := by decide +kernel
theorem dL_law_51 : decode cL_law 51 = .ok (.iconst 2, 1) := by decide +kernel
theorem dL_law_52 : decode cL_law 52 = .ok (.iload_n 2, 1) := by decide +kernel
theorem dL_law_53 : decode cL_law 53 = .ok (.imul, 1) := by decide +kernel
theorem dL_law_54 : decode cL_law 54 = .ok (.invokestatic 92, 3) := by decide +kernel
theorem dL_law_57 : decode cL_law 57 = .ok (.bipush 8, 2) := by decide +kernel
theorem dL_law_59 : decode cL_law 59 = .ok (.ishr, 1) := by decide +kernel
theorem dL_law_60 : decode cL_law 60 = .ok (.ldc 96, 2) := by decide +kernel
theorem dL_law_62 : decode cL_law 62 = .ok (.iand, 1) := by decide +kernel
theorem dL_law_63 : decode cL_law 63 = .ok (.imul, 1) := by decide +kernel
theorem dL_law_64 : decode cL_law 64 = .ok (.goto 10, 3) := by decide +kernel
theorem dL_law_67 : decode cL_law 67 = .ok (.aload_n 0, 1) := by decide +kernel
theorem dL_law_68 : decode cL_law 68 = .ok (.iconst 2, 1) := by decide +kernel
theorem dL_law_69 : decode cL_law 69 = .ok (.iload_n 2, 1) := by decide +kernel
theorem dL_law_70 : decode cL_law 70 = .ok (.imul, 1) := by decide +kernel
theorem dL_law_71 : decode cL_law 71 = .ok (.invokestatic 92, 3) := by decide +kernel
theorem dL_law_74 : decode cL_law 74 = .ok (.istore_n 3, 1) := by decide +kernel
theorem dL_law_75 : decode cL_law 75 = .ok (.aload_n 1, 1) := by decide +kernel
theorem dL_law_76 : decode cL_law 76 = .ok (.iload_n 3, 1) := by decide +kernel
theorem dL_law_77 : decode cL_law 77 = .ok (.aload_n 0, 1) := by decide +kernel
theorem dL_law_78 : decode cL_law 78 = .ok (.iconst 2, 1) := by decide +kernel
theorem dL_law_79 : decode cL_law 79 = .ok (.iload_n 2, 1) := by decide +kernel
theorem dL_law_80 : decode cL_law 80 = .ok (.imul, 1) := by decide +kernel
theorem dL_law_81 : decode cL_law 81 = .ok (.iconst 1, 1) := by decide +kernel
theorem dL_law_82 : decode cL_law 82 = .ok (.iadd, 1) := by decide +kernel
theorem dL_law_83 : decode cL_law 83 = .ok (.invokestatic 92, 3) := by decide +kernel
theorem dL_law_86 : decode cL_law 86 = .ok (.invokestatic 97, 3) := by decide +kernel
theorem dL_law_89 : decode cL_law 89 = .ok (.ifCond .eq 17, 3) := by decide +kernel
theorem dL_law_92 : decode cL_law 92 = .ok (.iload_n 2, 1) := by decide +kernel
theorem dL_law_93 : decode cL_law 93 = .ok (.iconst 2, 1) := by decide +kernel
theorem dL_law_94 : decode cL_law 94 = .ok (.irem, 1) := by decide +kernel
theorem dL_law_95 : decode cL_law 95 = .ok (.iconst 1, 1) := by decide +kernel
theorem dL_law_96 : decode cL_law 96 = .ok (.if_icmp .ne 12, 3) := by decide +kernel
theorem dL_law_99 : decode cL_law 99 = .ok (.aload_n 1, 1) := by decide +kernel
theorem dL_law_100 : decode cL_law 100 = .ok (.invokestatic 89, 3) := by decide +kernel
theorem dL_law_103 : decode cL_law 103 = .ok (.ifCond .ne 5, 3) := by decide +kernel
theorem dL_law_106 : decode cL_law 106 = .ok (.iconst 0, 1) := by decide +kernel
theorem dL_law_107 : decode cL_law 107 = .ok (.ireturn, 1) := by decide +kernel
theorem dL_law_108 : decode cL_law 108 = .ok (.iinc 2 1, 3) := by decide +kernel
theorem dL_law_111 : decode cL_law 111 = .ok (.goto (-74), 3) := by decide +kernel
theorem dL_law_114 : decode cL_law 114 = .ok (.aload_n 1, 1) := by decide +kernel
theorem dL_law_115 : decode cL_law 115 = .ok (.aload_n 0, 1) := by decide +kernel
theorem dL_law_116 : decode cL_law 116 = .ok (.bipush 61, 2) := by decide +kernel
theorem dL_law_118 : decode cL_law 118 = .ok (.invokestatic 92, 3) := by decide +kernel
theorem dL_law_121 : decode cL_law 121 = .ok (.invokestatic 85, 3) := by decide +kernel
theorem dL_law_124 : decode cL_law 124 = .ok (.ifCond .eq 14, 3) := by decide +kernel
theorem dL_law_127 : decode cL_law 127 = .ok (.aload_n 1, 1) := by decide +kernel
theorem dL_law_128 : decode cL_law 128 = .ok (.invokestatic 89, 3) := by decide +kernel
theorem dL_law_131 : decode cL_law 131 = .ok (.ifCond .eq 7, 3) := by decide +kernel
theorem dL_law_134 : decode cL_law 134 = .ok (.iconst 1, 1) := by decide +kernel
theorem dL_law_135 : decode cL_law 135 = .ok (.goto 4, 3) := by decide +kernel
theorem dL_law_138 : decode cL_law 138 = .ok (.iconst 0, 1) := by decide +kernel
theorem dL_law_139 : decode cL_law 139 = .ok (.ireturn, 1) := by decide +kernel
end
section
/-! ===== numbers ===== -/
def zI (z : Int) : Int32 := Int32.ofInt z
def inR (z : Int) : Prop := -2147483648 ≤ z ∧ z ≤ 2147483647
theorem zI_toInt {z : Int} (h : inR z) : (zI z).toInt = z := Int32.toInt_ofInt_of_le (by have := h.1; omega) (by have := h.2; omega)
theorem zI_of (x : Int32) : zI x.toInt = x := Int32.ofInt_toInt x
theorem inR_of (x : Int32) : inR x.toInt := ⟨by have := Int32.le_toInt x; omega, by have := Int32.toInt_lt x; omega⟩
theorem zI_lt {a b : Int} (ha : inR a) (hb : inR b) : zI a < zI b ↔ a < b := by rw [Int32.lt_iff_toInt_lt, zI_toInt ha, zI_toInt hb]
theorem zI_le {a b : Int} (ha : inR a) (hb : inR b) : zI a ≤ zI b ↔ a ≤ b := by rw [Int32.le_iff_toInt_le, zI_toInt ha, zI_toInt hb]
theorem zI_inj {a b : Int} (ha : inR a) (hb : inR b) : zI a = zI b ↔ a = b := by rw [← Int32.toInt_inj, zI_toInt ha, zI_toInt hb]
theorem zI_add (a b : Int) : zI a + zI b = zI (a + b) := (Int32.ofInt_add a b).symm
theorem zI_sub (a b : Int) : zI a - zI b = zI (a - b) := (Int32.ofInt_sub a b).symm
theorem zI_mul (a b : Int) : zI a * zI b = zI (a * b) := (Int32.ofInt_mul a b).symm
theorem zI_neg (a : Int) : - zI a = zI (- a) := (Int32.ofInt_neg a).symm
theorem zI_0 : zI 0 = 0 := by decide
theorem inR_0 : inR 0 := ⟨by decide, by decide⟩
theorem zI_min : Int32.minValue.toInt = -2147483648 := by decide
theorem zI_max : Int32.maxValue.toInt = 2147483647 := by decide
theorem zI_div {a b : Int} (ha : inR a) (hb : inR b) : zI a / zI b = zI (a.tdiv b) := by
  refine (Int32.ofInt_tdiv ?_ ?_ ?_ ?_).symm <;> first | rw [zI_min] | rw [zI_max]
  · exact ha.1
  · exact ha.2
  · exact hb.1
  · exact hb.2
theorem zI_rem {a b : Int} (ha : inR a) (hb : inR b) : zI a - zI a / zI b * zI b = zI (a.tmod b) := by
  rw [zI_div ha hb, zI_mul, zI_sub]
  congr 1
  have := Int.tmod_add_mul_tdiv a b
  rw [Int.mul_comm (a.tdiv b) b]
  omega
theorem zI_cl {z : Int} (h : inR z) : (zI z).toNatClampNeg = z.toNat := by rw [← Int32.toNat_toInt, zI_toInt h]
theorem zI_in {z : Int} {n : Nat} (h : inR z) (h0 : 0 ≤ z) (h1 : z < n) : vp_in (zI z) n := vp_in_iff.mpr (by rw [zI_toInt h]; exact ⟨h0, h1⟩)
/-! ===== values, memory ===== -/
abbrev Vv : Type := Int ⊕ Option Nat
abbrev En : Type := Nat → Vv
abbrev Mm : Type := List (Nat × Nat) × (Nat → Nat → Int) × (Nat → Nat → Option Nat)
def clR : Nat → List Bool
  | 0 => [true, false]
  | 1 => [true, true, true, true, true, true, true, true, true, true, false, false]
  | 2 => [false, false, false]
  | 3 => [true, true, true, true, true, false]
  | 4 => [true, true, true]
  | 5 => [true, false]
  | 6 => [true, true, true, false, true, true, true, true]
  | 7 => [true, true, false, true, false, true, false, true, true, true, true, true, true, false, true, false]
  | _ => []
def cv (ad : Nat → Nat) : Vv → Value
  | .inl z => .int (zI z)
  | .inr none => .null
  | .inr (some k) => .ref (ad k)
theorem cv_cat (ad : Nat → Nat) (v : Vv) : (cv ad v).category = 1 := by
  rcases v with z | _ | k <;> rfl
def fvs (ad : Nat → Nat) (M : Mm) (q : Nat) (bs : List Bool) : List Value := (List.range bs.length).map (fun k => if bs.getD k false = true then va_rf ((M.2.2 q k).map ad) else .int (zI (M.2.1 q k)))
def cellE (cI cC cS : ClassId) (ad : Nat → Nat) (M : Mm) (q : Nat) (w : Nat × Nat) : va_E :=
  if w.1 < 8 then .inr (w.1, fvs ad M q (clR w.1)) else if w.1 = 20 then .inl (cI, w.2, .inl (fun j => zI (M.2.1 q j))) else if w.1 = 21 then .inl (cC, w.2, .inl (fun j => zI (M.2.1 q j))) else .inl (cS, w.2, .inr (.inr (.inr (.inr (fun j => (M.2.2 q j).map ad)))))
def wsOf (cI cC cS : ClassId) (ad : Nat → Nat) (M : Mm) : va_W := (List.range M.1.length).map (fun q => (ad q, cellE cI cC cS ad M q (M.1.getD q (0, 0))))
theorem ws_get {cI cC cS : ClassId} {ad : Nat → Nat} {M : Mm} {q : Nat} {w : Nat × Nat} (h : M.1[q]? = some w) : (wsOf cI cC cS ad M)[q]? = some (ad q, cellE cI cC cS ad M q w) := by
  have hl : q < M.1.length := (List.getElem?_eq_some_iff.mp h).1
  unfold wsOf
  rw [List.getElem?_map, List.getElem?_range hl]
  simp [List.getD_eq_getElem?_getD, h]
theorem ws_len {cI cC cS : ClassId} {ad : Nat → Nat} {M : Mm} : (wsOf cI cC cS ad M).length = M.1.length := by simp [wsOf]
theorem ws_upd {cI cC cS : ClassId} {ad : Nat → Nat} {M M' : Mm} {q : Nat} {w : Nat × Nat} (h : M.1[q]? = some w) (hs : M'.1 = M.1) (ho : ∀ r w', r ≠ q → cellE cI cC cS ad M' r w' = cellE cI cC cS ad M r w') :
    (wsOf cI cC cS ad M).set q (ad q, cellE cI cC cS ad M' q w) = wsOf cI cC cS ad M' := by
  apply List.ext_getElem?
  intro i
  rw [List.getElem?_set]
  by_cases hi : q = i
  · subst hi
    have hl : q < M.1.length := (List.getElem?_eq_some_iff.mp h).1
    rw [if_pos rfl, if_pos (by rw [ws_len]; exact hl), ws_get (M := M') (by rw [hs]; exact h)]
  · rw [if_neg hi]
    by_cases hl : i < M.1.length
    · obtain ⟨w', hw⟩ : ∃ w', M.1[i]? = some w' := ⟨_, List.getElem?_eq_getElem hl⟩
      rw [ws_get hw, ws_get (M := M') (by rw [hs]; exact hw), ho i w' (fun e => hi e.symm)]
    · rw [List.getElem?_eq_none (by rw [ws_len]; omega), List.getElem?_eq_none (by rw [ws_len, hs]; omega)]
/-- an int is put -/
def si (M : Mm) (q k : Nat) (z : Int) : Mm := (M.1, fun q' k' => if q' = q ∧ k' = k then z else M.2.1 q' k', M.2.2)
/-- a place is put -/
def sr (M : Mm) (q k : Nat) (r : Option Nat) : Mm := (M.1, M.2.1, fun q' k' => if q' = q ∧ k' = k then r else M.2.2 q' k')
/-- a cell comes -/
def pu (M : Mm) (w : Nat × Nat) : Mm := (M.1 ++ [w], M.2)
theorem fvs_len {ad : Nat → Nat} {M : Mm} {q : Nat} {bs : List Bool} : (fvs ad M q bs).length = bs.length := by simp [fvs]
theorem fvs_get {ad : Nat → Nat} {M : Mm} {q k : Nat} {bs : List Bool} {b : Bool} (h : bs[k]? = some b) : (fvs ad M q bs)[k]? = some (if b = true then va_rf ((M.2.2 q k).map ad) else .int (zI (M.2.1 q k))) := by
  have hl : k < bs.length := (List.getElem?_eq_some_iff.mp h).1
  unfold fvs
  rw [List.getElem?_map, List.getElem?_range hl]
  simp [List.getD_eq_getElem?_getD, h]
theorem fvs_si {ad : Nat → Nat} {M : Mm} {q k : Nat} {bs : List Bool} {z : Int} (h : bs[k]? = some false) : (fvs ad M q bs).set k (.int (zI z)) = fvs ad (si M q k z) q bs := by
  apply List.ext_getElem?
  intro i
  rw [List.getElem?_set]
  have hl : k < bs.length := (List.getElem?_eq_some_iff.mp h).1
  by_cases hi : k = i
  · subst hi
    rw [if_pos rfl, if_pos (by rw [fvs_len]; exact hl), fvs_get h]
    simp [si]
  · rw [if_neg hi]
    by_cases hl2 : i < bs.length
    · obtain ⟨b, hb⟩ : ∃ b, bs[i]? = some b := ⟨_, List.getElem?_eq_getElem hl2⟩
      rw [fvs_get hb, fvs_get hb]
      simp [si, Ne.symm hi]
    · rw [List.getElem?_eq_none (by rw [fvs_len]; omega), List.getElem?_eq_none (by rw [fvs_len]; omega)]
theorem fvs_sr {ad : Nat → Nat} {M : Mm} {q k : Nat} {bs : List Bool} {r : Option Nat} (h : bs[k]? = some true) : (fvs ad M q bs).set k (va_rf (r.map ad)) = fvs ad (sr M q k r) q bs := by
  apply List.ext_getElem?
  intro i
  rw [List.getElem?_set]
  have hl : k < bs.length := (List.getElem?_eq_some_iff.mp h).1
  by_cases hi : k = i
  · subst hi
    rw [if_pos rfl, if_pos (by rw [fvs_len]; exact hl), fvs_get h]
    simp [sr]
  · rw [if_neg hi]
    by_cases hl2 : i < bs.length
    · obtain ⟨b, hb⟩ : ∃ b, bs[i]? = some b := ⟨_, List.getElem?_eq_getElem hl2⟩
      rw [fvs_get hb, fvs_get hb]
      simp [sr, Ne.symm hi]
    · rw [List.getElem?_eq_none (by rw [fvs_len]; omega), List.getElem?_eq_none (by rw [fvs_len]; omega)]
theorem cell_si {cI cC cS : ClassId} {ad : Nat → Nat} {M : Mm} {q k : Nat} {z : Int} : ∀ r w', r ≠ q → cellE cI cC cS ad (si M q k z) r w' = cellE cI cC cS ad M r w' := by
  intro r w' hr
  simp [cellE, fvs, si, hr]
theorem cell_sr {cI cC cS : ClassId} {ad : Nat → Nat} {M : Mm} {q k : Nat} {z : Option Nat} : ∀ r w', r ≠ q → cellE cI cC cS ad (sr M q k z) r w' = cellE cI cC cS ad M r w' := by
  intro r w' hr
  simp [cellE, fvs, sr, hr]
def ssz (w : Nat × Nat) : Nat := if w.1 < 8 then (clR w.1).length else w.2
def ssum (l : List (Nat × Nat)) : Nat := (l.map ssz).sum
def vok (M : Mm) : Vv → Prop
  | .inl z => inR z
  | .inr none => True
  | .inr (some k) => k < M.1.length ∨ (1000000 ≤ k ∧ k < 1000004)
def MOK (M : Mm) : Prop := M.1.length ≤ 1000000 ∧ (∀ q k, inR (M.2.1 q k)) ∧ (∀ q k j, M.2.2 q k = some j → j < M.1.length) ∧ (∀ q k, M.1.length ≤ q → M.2.1 q k = 0 ∧ M.2.2 q k = none)
theorem MOK_si {M : Mm} {q k : Nat} {z : Int} (h : MOK M) (hq : q < M.1.length) (hz : inR z) : MOK (si M q k z) := by
  refine ⟨h.1, fun a b => ?_, h.2.2.1, fun a b hab => ⟨?_, (h.2.2.2 a b hab).2⟩⟩
  · show inR (if a = q ∧ b = k then z else M.2.1 a b)
    split
    · exact hz
    · exact h.2.1 a b
  · have hab' : M.1.length ≤ a := hab
    show (if a = q ∧ b = k then z else M.2.1 a b) = 0
    rw [if_neg (by omega)]
    exact (h.2.2.2 a b hab).1
theorem MOK_sr {M : Mm} {q k : Nat} {r : Option Nat} (h : MOK M) (hq : q < M.1.length) (hr : ∀ j, r = some j → j < M.1.length) : MOK (sr M q k r) := by
  refine ⟨h.1, h.2.1, fun a b j => ?_, fun a b hab => ⟨(h.2.2.2 a b hab).1, ?_⟩⟩
  · show (if a = q ∧ b = k then r else M.2.2 a b) = some j → _
    split
    · exact hr j
    · exact h.2.2.1 a b j
  · have hab' : M.1.length ≤ a := hab
    show (if a = q ∧ b = k then r else M.2.2 a b) = none
    rw [if_neg (by omega)]
    exact (h.2.2.2 a b hab).2
theorem MOK_pu {M : Mm} {w : Nat × Nat} (h : MOK M) (hl : M.1.length + 1 ≤ 1000000) : MOK (pu M w) := by
  have e : (pu M w).1.length = M.1.length + 1 := by simp [pu]
  refine ⟨by rw [e]; exact hl, h.2.1, fun a b j hj => by rw [e]; exact Nat.lt_succ_of_lt (h.2.2.1 a b j hj), fun a b hab => h.2.2.2 a b (by rw [e] at hab; omega)⟩
theorem vok_pu {M : Mm} {w : Nat × Nat} {v : Vv} (h : vok M v) : vok (pu M w) v := by
  have e : (pu M w).1.length = M.1.length + 1 := by simp [pu]
  rcases v with z | _ | k
  · exact h
  · trivial
  · rcases h with h | h
    · exact Or.inl (by rw [e]; omega)
    · exact Or.inr h
/-! ===== locals ===== -/
def envF (ad : Nat → Nat) (ρ : En) (i : Nat) : Option (Nat × Value) := match ρ i with
  | .inr none => none
  | v => some (i, cv ad v)
def envL (ad : Nat → Nat) (ρ : En) (n : Nat) : List (Nat × Value) := (List.range n).filterMap (envF ad ρ)
theorem envF_of {ad : Nat → Nat} {ρ : En} {i : Nat} {v : Vv} (h : ρ i = v) (hv : v ≠ .inr none) : envF ad ρ i = some (i, cv ad v) := by
  unfold envF
  rw [h]
  rcases v with z | _ | k
  · rfl
  · exact absurd rfl hv
  · rfl
theorem envF_no {ad : Nat → Nat} {ρ : En} {i : Nat} (h : ρ i = .inr none) : envF ad ρ i = none := by
  unfold envF
  rw [h]
theorem envF_to {ad : Nat → Nat} {ρ : En} {i : Nat} {q : Nat × Value} (h : envF ad ρ i = some q) : q = (i, cv ad (ρ i)) ∧ ρ i ≠ .inr none := by
  rcases e : ρ i with z | _ | k
  · rw [envF_of e (fun h => by cases h)] at h
    exact ⟨(Option.some.inj h).symm, fun h => by cases h⟩
  · rw [envF_no e] at h
    cases h
  · rw [envF_of e (fun h => by cases h)] at h
    exact ⟨(Option.some.inj h).symm, fun h => by cases h⟩
theorem env_at {ad : Nat → Nat} {ρ : En} {nL : Nat} {ls : Array Slot} (h : lv_has ls nL (envL ad ρ nL)) {i : Nat} {v : Vv} (hi : i < nL) (he : ρ i = v) (hv : v ≠ .inr none) : ls[i]? = some (.val (cv ad v)) :=
  h.2.2 (i, cv ad v) (List.mem_filterMap.mpr ⟨i, List.mem_range.mpr hi, envF_of he hv⟩)
theorem env_put {ad : Nat → Nat} {ρ : En} {nL i : Nat} {v : Vv} {ls : Array Slot} (h : lv_has ls nL ((i, cv ad v) :: (envL ad ρ nL).filter (fun q => !(q.1 == i) && !(q.1 + 1 == i && q.2.category == 2)))) : lv_has ls nL (envL ad (va_up ρ i v) nL) := by
  refine ⟨h.1, h.2.1, fun q hq => h.2.2 q ?_⟩
  obtain ⟨j, hj, hq⟩ := List.mem_filterMap.mp hq
  obtain ⟨rfl, hn⟩ := envF_to hq
  by_cases hij : j = i
  · subst hij
    rw [va_up_self]
    exact List.mem_cons_self
  · rw [va_up_ne _ _ hij] at hn ⊢
    refine List.mem_cons_of_mem _ (List.mem_filter.mpr ⟨List.mem_filterMap.mpr ⟨j, hj, envF_of rfl hn⟩, ?_⟩)
    simp [hij, cv_cat]
theorem env_ext {ad ad' : Nat → Nat} {ρ : En} {nL : Nat} {ls : Array Slot} (h : lv_has ls nL (envL ad ρ nL)) (he : ∀ i, i < nL → cv ad' (ρ i) = cv ad (ρ i)) : lv_has ls nL (envL ad' ρ nL) := by
  refine ⟨h.1, h.2.1, fun q hq => h.2.2 q ?_⟩
  obtain ⟨j, hj, hq⟩ := List.mem_filterMap.mp hq
  obtain ⟨rfl, hn⟩ := envF_to hq
  rw [he j (List.mem_range.mp hj)]
  exact List.mem_filterMap.mpr ⟨j, hj, envF_of rfl hn⟩
def limC (ρ : En) : Nat := match ρ 1000 with
  | .inl z => z.toNat
  | _ => 0
def limS (ρ : En) : Nat := match ρ 1001 with
  | .inl z => z.toNat
  | _ => 0
theorem limC_up {ρ : En} {i : Nat} {v : Vv} (h : i < 1000) : limC (va_up ρ i v) = limC ρ := by
  unfold limC
  rw [va_up_ne _ _ (by omega)]
theorem limS_up {ρ : En} {i : Nat} {v : Vv} (h : i < 1000) : limS (va_up ρ i v) = limS ρ := by
  unfold limS
  rw [va_up_ne _ _ (by omega)]
/-! ===== statics, the point ===== -/
def stN : Nat → String
  | 0 => "FIRST_VALUES"
  | 1 => "LOWEST_VALUES"
  | _ => "HIGHEST_VALUES"
/-- the tables' words that stay over a call -/
def gtb : List Cond := lw_tbl.filter goodWord
def isNest : Cond → Bool
  | .methodLinkNest .. => true
  | .fieldLinkNest .. => true
  | _ => false
def nestW : List Cond := lw_tbl.filter isNest
theorem nest_on {w : Cond} (h : isNest w = true) : w.onTables = true := by
  cases w <;> first | rfl | (cases h; done)
theorem nest_mv {w : Cond} {s U : State} (h : isNest w = true) (hW : s.WarmedH U.vm) (hZ : va_Nw w s) : va_Nw w U := by
  cases w <;> first | exact va_Nw.warmM hW hZ | exact va_Nw.warmF hW hZ | (cases h; done)
theorem in_n (w : Cond) (i : Nat) (h : lw_tbl[i]? = some w) (hn : isNest w = true) : w ∈ nestW := List.mem_filter.mpr ⟨List.mem_of_getElem? h, hn⟩
def tysOf (cI cC cS : ClassId) : List (ClassId × FieldType) := [(cI, .int), (cC, .char), (cS, .object "SungSlides$State")]
/-- tables that are read alone: the statics 0, 1, 2, in the law the script too -/
def stV : Nat → Nat → Int
  | 0, 0 => 16
  | 0, 1 => 1
  | 0, 2 => 2
  | 0, 3 => 0
  | 0, 4 => 50
  | 1, 0 => 2
  | 1, 1 => 0
  | 1, 2 => 0
  | 1, 3 => 0
  | 1, 4 => 1
  | 2, 0 => 64
  | 2, 1 => 6
  | 2, 2 => 8
  | 2, 3 => 1
  | 2, 4 => 100
  | _, _ => 0
def tLn (L t : Nat) : Nat := if t < 3 then 5 else L
def tVl (xs : Nat → Int) (t j : Nat) : Int := if t < 3 then stV t j else xs j
def StOK (nt L : Nat) (xs : Nat → Int) (sA : Nat → Nat) (A : Nat → Prop) (U : State) (H : Heap) : Prop :=
  3 ≤ nt ∧ (∀ t, t < nt → va_X (sA t) (tLn L t) (fun j => zI (tVl xs t j)) U H ∧ sA t < H.size ∧ ¬ A (sA t)) ∧ (∀ t j, inR (tVl xs t j)) ∧ (∀ t, t < 3 → va_Z "SungSlides" (stN t) "[I" (.ref (sA t)) A U H) ∧ va_AO "SungSlides$State" U ∧ ∀ w ∈ nestW, va_Nw w U
/-- where the machine stands -/
def PtOK (R : Room) (s : State) (dC : Nat → ClassId) (dI : Nat → Nat → Nat) (cI cC cS : ClassId) (sA : Nat → Nat) (A : Nat → Prop) (nL n0 S0 : Nat) (ad0 : Nat → Nat) (ad : Nat → Nat) (H : Heap) (locs : List Loc) (cells slots : Nat) (ls : Array Slot) (sv : List Vv) (ρ : En) (M : Mm) : Prop :=
  (va_P (dC, dI) vwCl (wsOf cI cC cS ad M) H ∧ va_D A (wsOf cI cC cS ad M) ∧ va_S A s.heap H locs) ∧ (MOK M ∧ lv_has ls nL (envL ad ρ nL) ∧ (∀ i, i < 1000 → vok M (ρ i)) ∧ ∀ v ∈ sv, vok M v) ∧ ((n0 ≤ M.1.length ∧ ∀ k, k < n0 → ad k = ad0 k) ∧ ∀ t, ad (1000000 + t) = sA t) ∧ M.1.length = n0 + cells ∧ ssum M.1 = S0 + slots ∧ cells ≤ R.cells ∧ slots ≤ R.slots ∧ limC ρ ≤ n0 + R.cells ∧ limS ρ ≤ S0 + R.slots
def Wp (p : Program) (l : Launch) (e : Env) (R : Room) (s : State) (m : MethodId) (args : Array Value) (below : List Frame) (meth : Method) (c : Code) (dC : Nat → ClassId) (dI : Nat → Nat → Nat) (cI cC cS : ClassId) (sA : Nat → Nat) (A : Nat → Prop) (nL n0 S0 : Nat) (ad0 : Nat → Nat) (Q : State → Prop) (pc : Nat) (sv : List Vv) (ρ : En) (M : Mm) : Prop :=
  ∀ (ad : Nat → Nat) (H : Heap) (locs : List Loc) (cells slots : Nat) (ls : Array Slot), PtOK R s dC dI cI cC cS sA A nL n0 S0 ad0 ad H locs cells slots ls sv ρ M → W p l e R s m args below meth c H locs cells slots Q (F0 m pc ls (sv.map (cv ad)))
def CxOK (own : String) (cc : ByteArray) (nL : Nat) (mn : String) (R : Room) (ret : Option FieldType) (nt L : Nat) (xs : Nat → Int) (Rt : Int → Mm → Prop) (p : Program) (l : Launch) (e : Env) (s : State) (m : MethodId) (args : Array Value) (below : List Frame) (meth : Method) (c : Code) (dC : Nat → ClassId) (dI : Nat → Nat → Nat) (cI cC cS : ClassId) (sA : Nat → Nat) (A : Nat → Prop) (n0 S0 : Nat) (ad0 : Nat → Nat) (Q : State → Prop) : Prop :=
  p.tables.exec = Jvm.exec ∧ c.code = cc ∧ c.maxLocals = nL ∧ s.vm.findClass own = some m.cls ∧ (∀ w ∈ gtb, w.before args s = true) ∧ va_K (dC, dI) vwCl (tysOf cI cC cS) s ∧ (∀ q : Nat, s.heap.size ≤ q → A q) ∧ StOK nt L xs sA A s s.heap ∧ meth.name = mn ∧ nL ≤ 1000 ∧
  (∀ (rt : FieldType) (pc : Nat) (x : Int) (ρ : En) (M : Mm), ret = some rt → narrow rt (.int (zI x)) = .int (zI x) → decode cc pc = .ok (.ireturn, 1) → Rt x M → Wp p l e R s m args below meth c dC dI cI cC cS sA A nL n0 S0 ad0 Q pc [.inl x] ρ M) ∧
  (∀ (pc : Nat) (ρ : En) (M : Mm), ret = none → decode cc pc = .ok (.return_, 1) → Rt 0 M → Wp p l e R s m args below meth c dC dI cI cC cS sA A nL n0 S0 ad0 Q pc [] ρ M)
abbrev Gt : Type := Nat → List Vv → En → Mm → Prop
def Mach (own : String) (cc : ByteArray) (nL : Nat) (mn : String) (R : Room) (ret : Option FieldType) (nt L : Nat) (xs : Nat → Int) (Rt : Int → Mm → Prop) (G : Gt) : Prop :=
  ∃ (p : Program) (l : Launch) (e : Env) (s : State) (m : MethodId) (args : Array Value) (below : List Frame) (meth : Method) (c : Code) (dC : Nat → ClassId) (dI : Nat → Nat → Nat) (cI cC cS : ClassId) (sA : Nat → Nat) (A : Nat → Prop) (n0 S0 : Nat) (ad0 : Nat → Nat) (Q : State → Prop),
    CxOK own cc nL mn R ret nt L xs Rt p l e s m args below meth c dC dI cI cC cS sA A n0 S0 ad0 Q ∧ G = Wp p l e R s m args below meth c dC dI cI cC cS sA A nL n0 S0 ad0 Q
/-! ===== a rule an instruction ===== -/
theorem zI_nat (n : Nat) : zI (n : Int) = nI n := Int32.ofInt_eq_ofNat
theorem zI_bmod (z : Int) : zI (z % 4294967296) = zI z := by
  apply Int32.toInt_inj.mp
  unfold zI
  rw [Int32.toInt_ofInt, Int32.toInt_ofInt]
  exact Int.emod_bmod z 4294967296
theorem zI_tn (z : Int) : (zI z).toBitVec.toNat = (z % 4294967296).toNat := by
  have h0 : 0 ≤ z % 4294967296 := by omega
  obtain ⟨n, hn⟩ := Int.eq_ofNat_of_zero_le h0
  rw [← zI_bmod z, hn, zI_nat, pk_tn (by omega)]
  omega
theorem zI_char {x : Int} (h : inR x) : ((zI x).toUInt32 % 65536).toInt32 = zI (x % 65536) := by
  rw [pk_char, zI_tn, ← zI_nat]
  congr 1
  omega
theorem zI_and31 {x : Int} (h : inR x) : zI x &&& zI 31 = zI (x % 32) := by
  rw [pk_and (zI x) (m := zI 31) 5 (by decide), zI_tn, ← zI_nat]
  congr 1
  omega
section RULES
variable {own : String} {cc : ByteArray} {nL : Nat} {mn : String} {R : Room} {ret : Option FieldType} {nt L : Nat} {xs : Nat → Int} {Rt : Int → Mm → Prop} {G : Gt} {pc : Nat} {sv : List Vv} {ρ : En} {M : Mm}
theorem G_iconst (hG : Mach own cc nL mn R ret nt L xs Rt G) {n z : Int} (hdg : decode cc pc = .ok (.iconst n, 1)) (hv : Int32.ofInt n = zI z) (hz : inR z) (k : G (pc + 1) (.inl z :: sv) ρ M) : G pc sv ρ M := by
  obtain ⟨p, l, e, s, m, args, below, meth, c, dC, dI, cI, cC, cS, sA, A, n0, S0, ad0, Q, ⟨hx, hb, hml, hown, hts, hK, hA, hSt, hmn, hnL, hRI, hRV⟩, rfl⟩ := hG
  intro ad H locs cells slots ls hpt
  obtain ⟨⟨hP, hD, hS⟩, ⟨hM, hl, hvr, hvs⟩, ⟨⟨hn0, had0⟩, hsA⟩, hcn, hsn, hcl, hsl, hlc, hls⟩ := hpt
  exact lv_iconst hx hb hdg hv (k ad H locs cells slots ls ⟨⟨hP, hD, hS⟩, ⟨hM, hl, hvr, (List.forall_mem_cons.mpr ⟨hz, hvs⟩)⟩, ⟨⟨hn0, had0⟩, hsA⟩, hcn, hsn, hcl, hsl, hlc, hls⟩)
theorem G_bipush (hG : Mach own cc nL mn R ret nt L xs Rt G) {n z : Int} (hdg : decode cc pc = .ok (.bipush n, 2)) (hv : (Int8.ofInt n).toInt32 = zI z) (hz : inR z) (k : G (pc + 2) (.inl z :: sv) ρ M) : G pc sv ρ M := by
  obtain ⟨p, l, e, s, m, args, below, meth, c, dC, dI, cI, cC, cS, sA, A, n0, S0, ad0, Q, ⟨hx, hb, hml, hown, hts, hK, hA, hSt, hmn, hnL, hRI, hRV⟩, rfl⟩ := hG
  intro ad H locs cells slots ls hpt
  obtain ⟨⟨hP, hD, hS⟩, ⟨hM, hl, hvr, hvs⟩, ⟨⟨hn0, had0⟩, hsA⟩, hcn, hsn, hcl, hsl, hlc, hls⟩ := hpt
  exact lv_bipush hx hb hdg hv (k ad H locs cells slots ls ⟨⟨hP, hD, hS⟩, ⟨hM, hl, hvr, (List.forall_mem_cons.mpr ⟨hz, hvs⟩)⟩, ⟨⟨hn0, had0⟩, hsA⟩, hcn, hsn, hcl, hsl, hlc, hls⟩)
theorem G_sipush (hG : Mach own cc nL mn R ret nt L xs Rt G) {n z : Int} (hdg : decode cc pc = .ok (.sipush n, 3)) (hv : (Int16.ofInt n).toInt32 = zI z) (hz : inR z) (k : G (pc + 3) (.inl z :: sv) ρ M) : G pc sv ρ M := by
  obtain ⟨p, l, e, s, m, args, below, meth, c, dC, dI, cI, cC, cS, sA, A, n0, S0, ad0, Q, ⟨hx, hb, hml, hown, hts, hK, hA, hSt, hmn, hnL, hRI, hRV⟩, rfl⟩ := hG
  intro ad H locs cells slots ls hpt
  obtain ⟨⟨hP, hD, hS⟩, ⟨hM, hl, hvr, hvs⟩, ⟨⟨hn0, had0⟩, hsA⟩, hcn, hsn, hcl, hsl, hlc, hls⟩ := hpt
  exact lv_sipush hx hb hdg hv (k ad H locs cells slots ls ⟨⟨hP, hD, hS⟩, ⟨hM, hl, hvr, (List.forall_mem_cons.mpr ⟨hz, hvs⟩)⟩, ⟨⟨hn0, had0⟩, hsA⟩, hcn, hsn, hcl, hsl, hlc, hls⟩)
theorem G_iload (hG : Mach own cc nL mn R ret nt L xs Rt G) {i : Nat} {z : Int} {ins : Instr} {ln : Nat} (hdg : decode cc pc = .ok (.iload i, 2)) (hi : i < nL) (he : ρ i = .inl z) (k : G (pc + 2) (.inl z :: sv) ρ M) : G pc sv ρ M := by
  obtain ⟨p, l, e, s, m, args, below, meth, c, dC, dI, cI, cC, cS, sA, A, n0, S0, ad0, Q, ⟨hx, hb, hml, hown, hts, hK, hA, hSt, hmn, hnL, hRI, hRV⟩, rfl⟩ := hG
  intro ad H locs cells slots ls hpt
  obtain ⟨⟨hP, hD, hS⟩, ⟨hM, hl, hvr, hvs⟩, ⟨⟨hn0, had0⟩, hsA⟩, hcn, hsn, hcl, hsl, hlc, hls⟩ := hpt
  have hz : vok M (.inl z) := by rw [← he]; exact hvr i (by omega)
  exact lv_iload hx hb hdg (env_at hl hi he (fun h => by cases h)) (k ad H locs cells slots ls ⟨⟨hP, hD, hS⟩, ⟨hM, hl, hvr, (List.forall_mem_cons.mpr ⟨hz, hvs⟩)⟩, ⟨⟨hn0, had0⟩, hsA⟩, hcn, hsn, hcl, hsl, hlc, hls⟩)
theorem G_iload_n (hG : Mach own cc nL mn R ret nt L xs Rt G) {j : Fin 4} {i : Nat} {z : Int} (hdg : decode cc pc = .ok (.iload_n j, 1)) (hj : (j : Nat) = i) (hi : i < nL) (he : ρ i = .inl z) (k : G (pc + 1) (.inl z :: sv) ρ M) : G pc sv ρ M := by
  obtain ⟨p, l, e, s, m, args, below, meth, c, dC, dI, cI, cC, cS, sA, A, n0, S0, ad0, Q, ⟨hx, hb, hml, hown, hts, hK, hA, hSt, hmn, hnL, hRI, hRV⟩, rfl⟩ := hG
  intro ad H locs cells slots ls hpt
  obtain ⟨⟨hP, hD, hS⟩, ⟨hM, hl, hvr, hvs⟩, ⟨⟨hn0, had0⟩, hsA⟩, hcn, hsn, hcl, hsl, hlc, hls⟩ := hpt
  have hz : vok M (.inl z) := by rw [← he]; exact hvr i (by omega)
  exact lv_iload_n hx hb hdg hj (env_at hl hi he (fun h => by cases h)) (k ad H locs cells slots ls ⟨⟨hP, hD, hS⟩, ⟨hM, hl, hvr, (List.forall_mem_cons.mpr ⟨hz, hvs⟩)⟩, ⟨⟨hn0, had0⟩, hsA⟩, hcn, hsn, hcl, hsl, hlc, hls⟩)
theorem G_aload (hG : Mach own cc nL mn R ret nt L xs Rt G) {i : Nat} {q : Nat} (hdg : decode cc pc = .ok (.aload i, 2)) (hi : i < nL) (he : ρ i = .inr (some q)) (k : G (pc + 2) (.inr (some q) :: sv) ρ M) : G pc sv ρ M := by
  obtain ⟨p, l, e, s, m, args, below, meth, c, dC, dI, cI, cC, cS, sA, A, n0, S0, ad0, Q, ⟨hx, hb, hml, hown, hts, hK, hA, hSt, hmn, hnL, hRI, hRV⟩, rfl⟩ := hG
  intro ad H locs cells slots ls hpt
  obtain ⟨⟨hP, hD, hS⟩, ⟨hM, hl, hvr, hvs⟩, ⟨⟨hn0, had0⟩, hsA⟩, hcn, hsn, hcl, hsl, hlc, hls⟩ := hpt
  have hz : vok M (.inr (some q)) := by rw [← he]; exact hvr i (by omega)
  exact lv_aload hx hb hdg (env_at hl hi he (fun h => by cases h)) (k ad H locs cells slots ls ⟨⟨hP, hD, hS⟩, ⟨hM, hl, hvr, (List.forall_mem_cons.mpr ⟨hz, hvs⟩)⟩, ⟨⟨hn0, had0⟩, hsA⟩, hcn, hsn, hcl, hsl, hlc, hls⟩)
theorem G_aload_n (hG : Mach own cc nL mn R ret nt L xs Rt G) {j : Fin 4} {i : Nat} {q : Nat} (hdg : decode cc pc = .ok (.aload_n j, 1)) (hj : (j : Nat) = i) (hi : i < nL) (he : ρ i = .inr (some q)) (k : G (pc + 1) (.inr (some q) :: sv) ρ M) : G pc sv ρ M := by
  obtain ⟨p, l, e, s, m, args, below, meth, c, dC, dI, cI, cC, cS, sA, A, n0, S0, ad0, Q, ⟨hx, hb, hml, hown, hts, hK, hA, hSt, hmn, hnL, hRI, hRV⟩, rfl⟩ := hG
  intro ad H locs cells slots ls hpt
  obtain ⟨⟨hP, hD, hS⟩, ⟨hM, hl, hvr, hvs⟩, ⟨⟨hn0, had0⟩, hsA⟩, hcn, hsn, hcl, hsl, hlc, hls⟩ := hpt
  have hz : vok M (.inr (some q)) := by rw [← he]; exact hvr i (by omega)
  exact lv_aload_n hx hb hdg hj (env_at hl hi he (fun h => by cases h)) (k ad H locs cells slots ls ⟨⟨hP, hD, hS⟩, ⟨hM, hl, hvr, (List.forall_mem_cons.mpr ⟨hz, hvs⟩)⟩, ⟨⟨hn0, had0⟩, hsA⟩, hcn, hsn, hcl, hsl, hlc, hls⟩)
theorem G_istore (hG : Mach own cc nL mn R ret nt L xs Rt G) {i : Nat} {z : Int} (hdg : decode cc pc = .ok (.istore i, 2)) (hi : i < nL) (k : G (pc + 2) sv (va_up ρ i (.inl z)) M) : G pc (.inl z :: sv) ρ M := by
  obtain ⟨p, l, e, s, m, args, below, meth, c, dC, dI, cI, cC, cS, sA, A, n0, S0, ad0, Q, ⟨hx, hb, hml, hown, hts, hK, hA, hSt, hmn, hnL, hRI, hRV⟩, rfl⟩ := hG
  intro ad H locs cells slots ls hpt
  obtain ⟨⟨hP, hD, hS⟩, ⟨hM, hl, hvr, hvs⟩, ⟨⟨hn0, had0⟩, hsA⟩, hcn, hsn, hcl, hsl, hlc, hls⟩ := hpt
  refine lv_istore hx hb hdg hl hi rfl (fun ls1 hl1 => k ad H locs cells slots ls1 ⟨⟨hP, hD, hS⟩, ⟨hM, env_put hl1, (fun i2 h2 => by
      by_cases h : i2 = i
      · subst h; rw [va_up_self]; exact (hvs _ List.mem_cons_self)
      · rw [va_up_ne _ _ h]; exact hvr i2 h2), (fun v hv => hvs v (List.mem_cons_of_mem _ hv))⟩, ⟨⟨hn0, had0⟩, hsA⟩, hcn, hsn, hcl, hsl, by rw [limC_up (by omega)]; exact hlc, by rw [limS_up (by omega)]; exact hls⟩)
theorem G_istore_n (hG : Mach own cc nL mn R ret nt L xs Rt G) {j : Fin 4} {i : Nat} {z : Int} (hdg : decode cc pc = .ok (.istore_n j, 1)) (hj : (j : Nat) = i) (hi : i < nL) (k : G (pc + 1) sv (va_up ρ i (.inl z)) M) : G pc (.inl z :: sv) ρ M := by
  obtain ⟨p, l, e, s, m, args, below, meth, c, dC, dI, cI, cC, cS, sA, A, n0, S0, ad0, Q, ⟨hx, hb, hml, hown, hts, hK, hA, hSt, hmn, hnL, hRI, hRV⟩, rfl⟩ := hG
  intro ad H locs cells slots ls hpt
  obtain ⟨⟨hP, hD, hS⟩, ⟨hM, hl, hvr, hvs⟩, ⟨⟨hn0, had0⟩, hsA⟩, hcn, hsn, hcl, hsl, hlc, hls⟩ := hpt
  refine lv_istore_n hx hb hdg hj hl hi rfl (fun ls1 hl1 => k ad H locs cells slots ls1 ⟨⟨hP, hD, hS⟩, ⟨hM, env_put hl1, (fun i2 h2 => by
      by_cases h : i2 = i
      · subst h; rw [va_up_self]; exact (hvs _ List.mem_cons_self)
      · rw [va_up_ne _ _ h]; exact hvr i2 h2), (fun v hv => hvs v (List.mem_cons_of_mem _ hv))⟩, ⟨⟨hn0, had0⟩, hsA⟩, hcn, hsn, hcl, hsl, by rw [limC_up (by omega)]; exact hlc, by rw [limS_up (by omega)]; exact hls⟩)
theorem G_astore (hG : Mach own cc nL mn R ret nt L xs Rt G) {i : Nat} {q : Nat} (hdg : decode cc pc = .ok (.astore i, 2)) (hi : i < nL) (k : G (pc + 2) sv (va_up ρ i (.inr (some q))) M) : G pc (.inr (some q) :: sv) ρ M := by
  obtain ⟨p, l, e, s, m, args, below, meth, c, dC, dI, cI, cC, cS, sA, A, n0, S0, ad0, Q, ⟨hx, hb, hml, hown, hts, hK, hA, hSt, hmn, hnL, hRI, hRV⟩, rfl⟩ := hG
  intro ad H locs cells slots ls hpt
  obtain ⟨⟨hP, hD, hS⟩, ⟨hM, hl, hvr, hvs⟩, ⟨⟨hn0, had0⟩, hsA⟩, hcn, hsn, hcl, hsl, hlc, hls⟩ := hpt
  refine lv_astore hx hb hdg hl hi rfl (fun ls1 hl1 => k ad H locs cells slots ls1 ⟨⟨hP, hD, hS⟩, ⟨hM, env_put hl1, (fun i2 h2 => by
      by_cases h : i2 = i
      · subst h; rw [va_up_self]; exact (hvs _ List.mem_cons_self)
      · rw [va_up_ne _ _ h]; exact hvr i2 h2), (fun v hv => hvs v (List.mem_cons_of_mem _ hv))⟩, ⟨⟨hn0, had0⟩, hsA⟩, hcn, hsn, hcl, hsl, by rw [limC_up (by omega)]; exact hlc, by rw [limS_up (by omega)]; exact hls⟩)
theorem G_astore_n (hG : Mach own cc nL mn R ret nt L xs Rt G) {j : Fin 4} {i : Nat} {q : Nat} (hdg : decode cc pc = .ok (.astore_n j, 1)) (hj : (j : Nat) = i) (hi : i < nL) (k : G (pc + 1) sv (va_up ρ i (.inr (some q))) M) : G pc (.inr (some q) :: sv) ρ M := by
  obtain ⟨p, l, e, s, m, args, below, meth, c, dC, dI, cI, cC, cS, sA, A, n0, S0, ad0, Q, ⟨hx, hb, hml, hown, hts, hK, hA, hSt, hmn, hnL, hRI, hRV⟩, rfl⟩ := hG
  intro ad H locs cells slots ls hpt
  obtain ⟨⟨hP, hD, hS⟩, ⟨hM, hl, hvr, hvs⟩, ⟨⟨hn0, had0⟩, hsA⟩, hcn, hsn, hcl, hsl, hlc, hls⟩ := hpt
  refine lv_astore_n hx hb hdg hj hl hi rfl (fun ls1 hl1 => k ad H locs cells slots ls1 ⟨⟨hP, hD, hS⟩, ⟨hM, env_put hl1, (fun i2 h2 => by
      by_cases h : i2 = i
      · subst h; rw [va_up_self]; exact (hvs _ List.mem_cons_self)
      · rw [va_up_ne _ _ h]; exact hvr i2 h2), (fun v hv => hvs v (List.mem_cons_of_mem _ hv))⟩, ⟨⟨hn0, had0⟩, hsA⟩, hcn, hsn, hcl, hsl, by rw [limC_up (by omega)]; exact hlc, by rw [limS_up (by omega)]; exact hls⟩)
theorem G_iinc (hG : Mach own cc nL mn R ret nt L xs Rt G) {i : Nat} {n z : Int} (hdg : decode cc pc = .ok (.iinc i n, 3)) (hi : i < nL) (he : ρ i = .inl z) (hz : inR (z + n)) (k : G (pc + 3) sv (va_up ρ i (.inl (z + n))) M) : G pc sv ρ M := by
  obtain ⟨p, l, e, s, m, args, below, meth, c, dC, dI, cI, cC, cS, sA, A, n0, S0, ad0, Q, ⟨hx, hb, hml, hown, hts, hK, hA, hSt, hmn, hnL, hRI, hRV⟩, rfl⟩ := hG
  intro ad H locs cells slots ls hpt
  obtain ⟨⟨hP, hD, hS⟩, ⟨hM, hl, hvr, hvs⟩, ⟨⟨hn0, had0⟩, hsA⟩, hcn, hsn, hcl, hsl, hlc, hls⟩ := hpt
  have hmem : (i, cv ad (.inl z)) ∈ envL ad ρ nL := List.mem_filterMap.mpr ⟨i, List.mem_range.mpr hi, envF_of he (fun h => by cases h)⟩
  obtain ⟨k0, hk0⟩ := List.getElem?_of_mem hmem
  refine lv_iinc (v := zI (z + n)) hx hb hdg hl hk0 (zI_add z n) hi rfl (fun ls1 hl1 => k ad H locs cells slots ls1 ⟨⟨hP, hD, hS⟩, ⟨hM, env_put (v := .inl (z + n)) hl1, (fun i2 h2 => by
      by_cases h : i2 = i
      · subst h; rw [va_up_self]; exact hz
      · rw [va_up_ne _ _ h]; exact hvr i2 h2), hvs⟩, ⟨⟨hn0, had0⟩, hsA⟩, hcn, hsn, hcl, hsl, by rw [limC_up (by omega)]; exact hlc, by rw [limS_up (by omega)]; exact hls⟩)
theorem G_iadd (hG : Mach own cc nL mn R ret nt L xs Rt G) {x y : Int} (hdg : decode cc pc = .ok (.iadd, 1)) (hz : inR (x + y)) (k : G (pc + 1) (.inl (x + y) :: sv) ρ M) : G pc (.inl y :: .inl x :: sv) ρ M := by
  obtain ⟨p, l, e, s, m, args, below, meth, c, dC, dI, cI, cC, cS, sA, A, n0, S0, ad0, Q, ⟨hx, hb, hml, hown, hts, hK, hA, hSt, hmn, hnL, hRI, hRV⟩, rfl⟩ := hG
  intro ad H locs cells slots ls hpt
  obtain ⟨⟨hP, hD, hS⟩, ⟨hM, hl, hvr, hvs⟩, ⟨⟨hn0, had0⟩, hsA⟩, hcn, hsn, hcl, hsl, hlc, hls⟩ := hpt
  refine lv_iadd hx hb hdg ?_
  rw [zI_add]
  exact k ad H locs cells slots ls ⟨⟨hP, hD, hS⟩, ⟨hM, hl, hvr, (List.forall_mem_cons.mpr ⟨hz, (fun v hv => hvs v (List.mem_cons_of_mem _ (List.mem_cons_of_mem _ hv)))⟩)⟩, ⟨⟨hn0, had0⟩, hsA⟩, hcn, hsn, hcl, hsl, hlc, hls⟩
theorem G_isub (hG : Mach own cc nL mn R ret nt L xs Rt G) {x y : Int} (hdg : decode cc pc = .ok (.isub, 1)) (hz : inR (x - y)) (k : G (pc + 1) (.inl (x - y) :: sv) ρ M) : G pc (.inl y :: .inl x :: sv) ρ M := by
  obtain ⟨p, l, e, s, m, args, below, meth, c, dC, dI, cI, cC, cS, sA, A, n0, S0, ad0, Q, ⟨hx, hb, hml, hown, hts, hK, hA, hSt, hmn, hnL, hRI, hRV⟩, rfl⟩ := hG
  intro ad H locs cells slots ls hpt
  obtain ⟨⟨hP, hD, hS⟩, ⟨hM, hl, hvr, hvs⟩, ⟨⟨hn0, had0⟩, hsA⟩, hcn, hsn, hcl, hsl, hlc, hls⟩ := hpt
  refine lv_isub hx hb hdg ?_
  rw [zI_sub]
  exact k ad H locs cells slots ls ⟨⟨hP, hD, hS⟩, ⟨hM, hl, hvr, (List.forall_mem_cons.mpr ⟨hz, (fun v hv => hvs v (List.mem_cons_of_mem _ (List.mem_cons_of_mem _ hv)))⟩)⟩, ⟨⟨hn0, had0⟩, hsA⟩, hcn, hsn, hcl, hsl, hlc, hls⟩
theorem G_imul (hG : Mach own cc nL mn R ret nt L xs Rt G) {x y : Int} (hdg : decode cc pc = .ok (.imul, 1)) (hz : inR (x * y)) (k : G (pc + 1) (.inl (x * y) :: sv) ρ M) : G pc (.inl y :: .inl x :: sv) ρ M := by
  obtain ⟨p, l, e, s, m, args, below, meth, c, dC, dI, cI, cC, cS, sA, A, n0, S0, ad0, Q, ⟨hx, hb, hml, hown, hts, hK, hA, hSt, hmn, hnL, hRI, hRV⟩, rfl⟩ := hG
  intro ad H locs cells slots ls hpt
  obtain ⟨⟨hP, hD, hS⟩, ⟨hM, hl, hvr, hvs⟩, ⟨⟨hn0, had0⟩, hsA⟩, hcn, hsn, hcl, hsl, hlc, hls⟩ := hpt
  refine lv_imul hx hb hdg ?_
  rw [zI_mul]
  exact k ad H locs cells slots ls ⟨⟨hP, hD, hS⟩, ⟨hM, hl, hvr, (List.forall_mem_cons.mpr ⟨hz, (fun v hv => hvs v (List.mem_cons_of_mem _ (List.mem_cons_of_mem _ hv)))⟩)⟩, ⟨⟨hn0, had0⟩, hsA⟩, hcn, hsn, hcl, hsl, hlc, hls⟩
theorem G_idiv (hG : Mach own cc nL mn R ret nt L xs Rt G) {x y : Int} (hdg : decode cc pc = .ok (.idiv, 1)) (hy : y ≠ 0) (hz : inR (x.tdiv y)) (k : G (pc + 1) (.inl (x.tdiv y) :: sv) ρ M) : G pc (.inl y :: .inl x :: sv) ρ M := by
  obtain ⟨p, l, e, s, m, args, below, meth, c, dC, dI, cI, cC, cS, sA, A, n0, S0, ad0, Q, ⟨hx, hb, hml, hown, hts, hK, hA, hSt, hmn, hnL, hRI, hRV⟩, rfl⟩ := hG
  intro ad H locs cells slots ls hpt
  obtain ⟨⟨hP, hD, hS⟩, ⟨hM, hl, hvr, hvs⟩, ⟨⟨hn0, had0⟩, hsA⟩, hcn, hsn, hcl, hsl, hlc, hls⟩ := hpt
  have hxr : inR x := (hvs _ (List.mem_cons_of_mem _ List.mem_cons_self))
  have hyr : inR y := (hvs _ List.mem_cons_self)
  refine lv_idiv hx hb hdg (fun h => hy ((zI_inj hyr inR_0).mp (h.trans zI_0.symm))) ?_
  rw [zI_div hxr hyr]
  exact k ad H locs cells slots ls ⟨⟨hP, hD, hS⟩, ⟨hM, hl, hvr, (List.forall_mem_cons.mpr ⟨hz, (fun v hv => hvs v (List.mem_cons_of_mem _ (List.mem_cons_of_mem _ hv)))⟩)⟩, ⟨⟨hn0, had0⟩, hsA⟩, hcn, hsn, hcl, hsl, hlc, hls⟩
theorem G_irem (hG : Mach own cc nL mn R ret nt L xs Rt G) {x y : Int} (hdg : decode cc pc = .ok (.irem, 1)) (hy : y ≠ 0) (hz : inR (x.tmod y)) (k : G (pc + 1) (.inl (x.tmod y) :: sv) ρ M) : G pc (.inl y :: .inl x :: sv) ρ M := by
  obtain ⟨p, l, e, s, m, args, below, meth, c, dC, dI, cI, cC, cS, sA, A, n0, S0, ad0, Q, ⟨hx, hb, hml, hown, hts, hK, hA, hSt, hmn, hnL, hRI, hRV⟩, rfl⟩ := hG
  intro ad H locs cells slots ls hpt
  obtain ⟨⟨hP, hD, hS⟩, ⟨hM, hl, hvr, hvs⟩, ⟨⟨hn0, had0⟩, hsA⟩, hcn, hsn, hcl, hsl, hlc, hls⟩ := hpt
  have hxr : inR x := (hvs _ (List.mem_cons_of_mem _ List.mem_cons_self))
  have hyr : inR y := (hvs _ List.mem_cons_self)
  refine lv_irem hx hb hdg (fun h => hy ((zI_inj hyr inR_0).mp (h.trans zI_0.symm))) ?_
  rw [zI_rem hxr hyr]
  exact k ad H locs cells slots ls ⟨⟨hP, hD, hS⟩, ⟨hM, hl, hvr, (List.forall_mem_cons.mpr ⟨hz, (fun v hv => hvs v (List.mem_cons_of_mem _ (List.mem_cons_of_mem _ hv)))⟩)⟩, ⟨⟨hn0, had0⟩, hsA⟩, hcn, hsn, hcl, hsl, hlc, hls⟩
theorem G_ineg (hG : Mach own cc nL mn R ret nt L xs Rt G) {x : Int} (hdg : decode cc pc = .ok (.ineg, 1)) (hz : inR (-x)) (k : G (pc + 1) (.inl (-x) :: sv) ρ M) : G pc (.inl x :: sv) ρ M := by
  obtain ⟨p, l, e, s, m, args, below, meth, c, dC, dI, cI, cC, cS, sA, A, n0, S0, ad0, Q, ⟨hx, hb, hml, hown, hts, hK, hA, hSt, hmn, hnL, hRI, hRV⟩, rfl⟩ := hG
  intro ad H locs cells slots ls hpt
  obtain ⟨⟨hP, hD, hS⟩, ⟨hM, hl, hvr, hvs⟩, ⟨⟨hn0, had0⟩, hsA⟩, hcn, hsn, hcl, hsl, hlc, hls⟩ := hpt
  refine lv_ineg hx hb hdg ?_
  rw [zI_neg]
  exact k ad H locs cells slots ls ⟨⟨hP, hD, hS⟩, ⟨hM, hl, hvr, (List.forall_mem_cons.mpr ⟨hz, (fun v hv => hvs v (List.mem_cons_of_mem _ hv))⟩)⟩, ⟨⟨hn0, had0⟩, hsA⟩, hcn, hsn, hcl, hsl, hlc, hls⟩
theorem G_if_eq (hG : Mach own cc nL mn R ret nt L xs Rt G) {x off : Int} {tgt : Nat} (hdg : decode cc pc = .ok (.ifCond .eq off, 3)) (ht : (pc : Int) + off = (tgt : Int)) (kt : x = 0 → G tgt sv ρ M) (kf : ¬ (x = 0) → G (pc + 3) sv ρ M) : G pc (.inl x :: sv) ρ M := by
  obtain ⟨p, l, e, s, m, args, below, meth, c, dC, dI, cI, cC, cS, sA, A, n0, S0, ad0, Q, ⟨hx, hb, hml, hown, hts, hK, hA, hSt, hmn, hnL, hRI, hRV⟩, rfl⟩ := hG
  intro ad H locs cells slots ls hpt
  obtain ⟨⟨hP, hD, hS⟩, ⟨hM, hl, hvr, hvs⟩, ⟨⟨hn0, had0⟩, hsA⟩, hcn, hsn, hcl, hsl, hlc, hls⟩ := hpt
  have hxr : inR x := (hvs _ List.mem_cons_self)
  have hc := (zI_inj hxr inR_0)
  rw [zI_0] at hc
  exact lv_if_eq hx hb hdg ht (fun h => kt (hc.mp h) ad H locs cells slots ls ⟨⟨hP, hD, hS⟩, ⟨hM, hl, hvr, (fun v hv => hvs v (List.mem_cons_of_mem _ hv))⟩, ⟨⟨hn0, had0⟩, hsA⟩, hcn, hsn, hcl, hsl, hlc, hls⟩) (fun h => kf (fun h2 => h (hc.mpr h2)) ad H locs cells slots ls ⟨⟨hP, hD, hS⟩, ⟨hM, hl, hvr, (fun v hv => hvs v (List.mem_cons_of_mem _ hv))⟩, ⟨⟨hn0, had0⟩, hsA⟩, hcn, hsn, hcl, hsl, hlc, hls⟩)
theorem G_if_ne (hG : Mach own cc nL mn R ret nt L xs Rt G) {x off : Int} {tgt : Nat} (hdg : decode cc pc = .ok (.ifCond .ne off, 3)) (ht : (pc : Int) + off = (tgt : Int)) (kt : x ≠ 0 → G tgt sv ρ M) (kf : ¬ (x ≠ 0) → G (pc + 3) sv ρ M) : G pc (.inl x :: sv) ρ M := by
  obtain ⟨p, l, e, s, m, args, below, meth, c, dC, dI, cI, cC, cS, sA, A, n0, S0, ad0, Q, ⟨hx, hb, hml, hown, hts, hK, hA, hSt, hmn, hnL, hRI, hRV⟩, rfl⟩ := hG
  intro ad H locs cells slots ls hpt
  obtain ⟨⟨hP, hD, hS⟩, ⟨hM, hl, hvr, hvs⟩, ⟨⟨hn0, had0⟩, hsA⟩, hcn, hsn, hcl, hsl, hlc, hls⟩ := hpt
  have hxr : inR x := (hvs _ List.mem_cons_self)
  have hc := (not_congr (zI_inj hxr inR_0))
  rw [zI_0] at hc
  exact lv_if_ne hx hb hdg ht (fun h => kt (hc.mp h) ad H locs cells slots ls ⟨⟨hP, hD, hS⟩, ⟨hM, hl, hvr, (fun v hv => hvs v (List.mem_cons_of_mem _ hv))⟩, ⟨⟨hn0, had0⟩, hsA⟩, hcn, hsn, hcl, hsl, hlc, hls⟩) (fun h => kf (fun h2 => hc.mpr h2 h) ad H locs cells slots ls ⟨⟨hP, hD, hS⟩, ⟨hM, hl, hvr, (fun v hv => hvs v (List.mem_cons_of_mem _ hv))⟩, ⟨⟨hn0, had0⟩, hsA⟩, hcn, hsn, hcl, hsl, hlc, hls⟩)
theorem G_if_lt (hG : Mach own cc nL mn R ret nt L xs Rt G) {x off : Int} {tgt : Nat} (hdg : decode cc pc = .ok (.ifCond .lt off, 3)) (ht : (pc : Int) + off = (tgt : Int)) (kt : x < 0 → G tgt sv ρ M) (kf : ¬ (x < 0) → G (pc + 3) sv ρ M) : G pc (.inl x :: sv) ρ M := by
  obtain ⟨p, l, e, s, m, args, below, meth, c, dC, dI, cI, cC, cS, sA, A, n0, S0, ad0, Q, ⟨hx, hb, hml, hown, hts, hK, hA, hSt, hmn, hnL, hRI, hRV⟩, rfl⟩ := hG
  intro ad H locs cells slots ls hpt
  obtain ⟨⟨hP, hD, hS⟩, ⟨hM, hl, hvr, hvs⟩, ⟨⟨hn0, had0⟩, hsA⟩, hcn, hsn, hcl, hsl, hlc, hls⟩ := hpt
  have hxr : inR x := (hvs _ List.mem_cons_self)
  have hc := (zI_lt hxr inR_0)
  rw [zI_0] at hc
  exact lv_if_lt hx hb hdg ht (fun h => kt (hc.mp h) ad H locs cells slots ls ⟨⟨hP, hD, hS⟩, ⟨hM, hl, hvr, (fun v hv => hvs v (List.mem_cons_of_mem _ hv))⟩, ⟨⟨hn0, had0⟩, hsA⟩, hcn, hsn, hcl, hsl, hlc, hls⟩) (fun h => kf (fun h2 => h (hc.mpr h2)) ad H locs cells slots ls ⟨⟨hP, hD, hS⟩, ⟨hM, hl, hvr, (fun v hv => hvs v (List.mem_cons_of_mem _ hv))⟩, ⟨⟨hn0, had0⟩, hsA⟩, hcn, hsn, hcl, hsl, hlc, hls⟩)
theorem G_if_ge (hG : Mach own cc nL mn R ret nt L xs Rt G) {x off : Int} {tgt : Nat} (hdg : decode cc pc = .ok (.ifCond .ge off, 3)) (ht : (pc : Int) + off = (tgt : Int)) (kt : 0 ≤ x → G tgt sv ρ M) (kf : ¬ (0 ≤ x) → G (pc + 3) sv ρ M) : G pc (.inl x :: sv) ρ M := by
  obtain ⟨p, l, e, s, m, args, below, meth, c, dC, dI, cI, cC, cS, sA, A, n0, S0, ad0, Q, ⟨hx, hb, hml, hown, hts, hK, hA, hSt, hmn, hnL, hRI, hRV⟩, rfl⟩ := hG
  intro ad H locs cells slots ls hpt
  obtain ⟨⟨hP, hD, hS⟩, ⟨hM, hl, hvr, hvs⟩, ⟨⟨hn0, had0⟩, hsA⟩, hcn, hsn, hcl, hsl, hlc, hls⟩ := hpt
  have hxr : inR x := (hvs _ List.mem_cons_self)
  have hc := (zI_le inR_0 hxr)
  rw [zI_0] at hc
  exact lv_if_ge hx hb hdg ht (fun h => kt (hc.mp h) ad H locs cells slots ls ⟨⟨hP, hD, hS⟩, ⟨hM, hl, hvr, (fun v hv => hvs v (List.mem_cons_of_mem _ hv))⟩, ⟨⟨hn0, had0⟩, hsA⟩, hcn, hsn, hcl, hsl, hlc, hls⟩) (fun h => kf (fun h2 => h (hc.mpr h2)) ad H locs cells slots ls ⟨⟨hP, hD, hS⟩, ⟨hM, hl, hvr, (fun v hv => hvs v (List.mem_cons_of_mem _ hv))⟩, ⟨⟨hn0, had0⟩, hsA⟩, hcn, hsn, hcl, hsl, hlc, hls⟩)
theorem G_if_gt (hG : Mach own cc nL mn R ret nt L xs Rt G) {x off : Int} {tgt : Nat} (hdg : decode cc pc = .ok (.ifCond .gt off, 3)) (ht : (pc : Int) + off = (tgt : Int)) (kt : 0 < x → G tgt sv ρ M) (kf : ¬ (0 < x) → G (pc + 3) sv ρ M) : G pc (.inl x :: sv) ρ M := by
  obtain ⟨p, l, e, s, m, args, below, meth, c, dC, dI, cI, cC, cS, sA, A, n0, S0, ad0, Q, ⟨hx, hb, hml, hown, hts, hK, hA, hSt, hmn, hnL, hRI, hRV⟩, rfl⟩ := hG
  intro ad H locs cells slots ls hpt
  obtain ⟨⟨hP, hD, hS⟩, ⟨hM, hl, hvr, hvs⟩, ⟨⟨hn0, had0⟩, hsA⟩, hcn, hsn, hcl, hsl, hlc, hls⟩ := hpt
  have hxr : inR x := (hvs _ List.mem_cons_self)
  have hc := (zI_lt inR_0 hxr)
  rw [zI_0] at hc
  exact lv_if_gt hx hb hdg ht (fun h => kt (hc.mp h) ad H locs cells slots ls ⟨⟨hP, hD, hS⟩, ⟨hM, hl, hvr, (fun v hv => hvs v (List.mem_cons_of_mem _ hv))⟩, ⟨⟨hn0, had0⟩, hsA⟩, hcn, hsn, hcl, hsl, hlc, hls⟩) (fun h => kf (fun h2 => h (hc.mpr h2)) ad H locs cells slots ls ⟨⟨hP, hD, hS⟩, ⟨hM, hl, hvr, (fun v hv => hvs v (List.mem_cons_of_mem _ hv))⟩, ⟨⟨hn0, had0⟩, hsA⟩, hcn, hsn, hcl, hsl, hlc, hls⟩)
theorem G_if_le (hG : Mach own cc nL mn R ret nt L xs Rt G) {x off : Int} {tgt : Nat} (hdg : decode cc pc = .ok (.ifCond .le off, 3)) (ht : (pc : Int) + off = (tgt : Int)) (kt : x ≤ 0 → G tgt sv ρ M) (kf : ¬ (x ≤ 0) → G (pc + 3) sv ρ M) : G pc (.inl x :: sv) ρ M := by
  obtain ⟨p, l, e, s, m, args, below, meth, c, dC, dI, cI, cC, cS, sA, A, n0, S0, ad0, Q, ⟨hx, hb, hml, hown, hts, hK, hA, hSt, hmn, hnL, hRI, hRV⟩, rfl⟩ := hG
  intro ad H locs cells slots ls hpt
  obtain ⟨⟨hP, hD, hS⟩, ⟨hM, hl, hvr, hvs⟩, ⟨⟨hn0, had0⟩, hsA⟩, hcn, hsn, hcl, hsl, hlc, hls⟩ := hpt
  have hxr : inR x := (hvs _ List.mem_cons_self)
  have hc := (zI_le hxr inR_0)
  rw [zI_0] at hc
  exact lv_if_le hx hb hdg ht (fun h => kt (hc.mp h) ad H locs cells slots ls ⟨⟨hP, hD, hS⟩, ⟨hM, hl, hvr, (fun v hv => hvs v (List.mem_cons_of_mem _ hv))⟩, ⟨⟨hn0, had0⟩, hsA⟩, hcn, hsn, hcl, hsl, hlc, hls⟩) (fun h => kf (fun h2 => h (hc.mpr h2)) ad H locs cells slots ls ⟨⟨hP, hD, hS⟩, ⟨hM, hl, hvr, (fun v hv => hvs v (List.mem_cons_of_mem _ hv))⟩, ⟨⟨hn0, had0⟩, hsA⟩, hcn, hsn, hcl, hsl, hlc, hls⟩)
theorem G_icmp_eq (hG : Mach own cc nL mn R ret nt L xs Rt G) {x y off : Int} {tgt : Nat} (hdg : decode cc pc = .ok (.if_icmp .eq off, 3)) (ht : (pc : Int) + off = (tgt : Int)) (kt : x = y → G tgt sv ρ M) (kf : ¬ (x = y) → G (pc + 3) sv ρ M) : G pc (.inl y :: .inl x :: sv) ρ M := by
  obtain ⟨p, l, e, s, m, args, below, meth, c, dC, dI, cI, cC, cS, sA, A, n0, S0, ad0, Q, ⟨hx, hb, hml, hown, hts, hK, hA, hSt, hmn, hnL, hRI, hRV⟩, rfl⟩ := hG
  intro ad H locs cells slots ls hpt
  obtain ⟨⟨hP, hD, hS⟩, ⟨hM, hl, hvr, hvs⟩, ⟨⟨hn0, had0⟩, hsA⟩, hcn, hsn, hcl, hsl, hlc, hls⟩ := hpt
  have hyr : inR y := (hvs _ List.mem_cons_self)
  have hxr : inR x := (hvs _ (List.mem_cons_of_mem _ List.mem_cons_self))
  have hc := (zI_inj hxr hyr)
  exact lv_icmp_eq hx hb hdg ht (fun h => kt (hc.mp h) ad H locs cells slots ls ⟨⟨hP, hD, hS⟩, ⟨hM, hl, hvr, (fun v hv => hvs v (List.mem_cons_of_mem _ (List.mem_cons_of_mem _ hv)))⟩, ⟨⟨hn0, had0⟩, hsA⟩, hcn, hsn, hcl, hsl, hlc, hls⟩) (fun h => kf (fun h2 => h (hc.mpr h2)) ad H locs cells slots ls ⟨⟨hP, hD, hS⟩, ⟨hM, hl, hvr, (fun v hv => hvs v (List.mem_cons_of_mem _ (List.mem_cons_of_mem _ hv)))⟩, ⟨⟨hn0, had0⟩, hsA⟩, hcn, hsn, hcl, hsl, hlc, hls⟩)
theorem G_icmp_ne (hG : Mach own cc nL mn R ret nt L xs Rt G) {x y off : Int} {tgt : Nat} (hdg : decode cc pc = .ok (.if_icmp .ne off, 3)) (ht : (pc : Int) + off = (tgt : Int)) (kt : x ≠ y → G tgt sv ρ M) (kf : ¬ (x ≠ y) → G (pc + 3) sv ρ M) : G pc (.inl y :: .inl x :: sv) ρ M := by
  obtain ⟨p, l, e, s, m, args, below, meth, c, dC, dI, cI, cC, cS, sA, A, n0, S0, ad0, Q, ⟨hx, hb, hml, hown, hts, hK, hA, hSt, hmn, hnL, hRI, hRV⟩, rfl⟩ := hG
  intro ad H locs cells slots ls hpt
  obtain ⟨⟨hP, hD, hS⟩, ⟨hM, hl, hvr, hvs⟩, ⟨⟨hn0, had0⟩, hsA⟩, hcn, hsn, hcl, hsl, hlc, hls⟩ := hpt
  have hyr : inR y := (hvs _ List.mem_cons_self)
  have hxr : inR x := (hvs _ (List.mem_cons_of_mem _ List.mem_cons_self))
  have hc := (not_congr (zI_inj hxr hyr))
  exact lv_icmp_ne hx hb hdg ht (fun h => kt (hc.mp h) ad H locs cells slots ls ⟨⟨hP, hD, hS⟩, ⟨hM, hl, hvr, (fun v hv => hvs v (List.mem_cons_of_mem _ (List.mem_cons_of_mem _ hv)))⟩, ⟨⟨hn0, had0⟩, hsA⟩, hcn, hsn, hcl, hsl, hlc, hls⟩) (fun h => kf (fun h2 => hc.mpr h2 h) ad H locs cells slots ls ⟨⟨hP, hD, hS⟩, ⟨hM, hl, hvr, (fun v hv => hvs v (List.mem_cons_of_mem _ (List.mem_cons_of_mem _ hv)))⟩, ⟨⟨hn0, had0⟩, hsA⟩, hcn, hsn, hcl, hsl, hlc, hls⟩)
theorem G_icmp_lt (hG : Mach own cc nL mn R ret nt L xs Rt G) {x y off : Int} {tgt : Nat} (hdg : decode cc pc = .ok (.if_icmp .lt off, 3)) (ht : (pc : Int) + off = (tgt : Int)) (kt : x < y → G tgt sv ρ M) (kf : ¬ (x < y) → G (pc + 3) sv ρ M) : G pc (.inl y :: .inl x :: sv) ρ M := by
  obtain ⟨p, l, e, s, m, args, below, meth, c, dC, dI, cI, cC, cS, sA, A, n0, S0, ad0, Q, ⟨hx, hb, hml, hown, hts, hK, hA, hSt, hmn, hnL, hRI, hRV⟩, rfl⟩ := hG
  intro ad H locs cells slots ls hpt
  obtain ⟨⟨hP, hD, hS⟩, ⟨hM, hl, hvr, hvs⟩, ⟨⟨hn0, had0⟩, hsA⟩, hcn, hsn, hcl, hsl, hlc, hls⟩ := hpt
  have hyr : inR y := (hvs _ List.mem_cons_self)
  have hxr : inR x := (hvs _ (List.mem_cons_of_mem _ List.mem_cons_self))
  have hc := (zI_lt hxr hyr)
  exact lv_icmp_lt hx hb hdg ht (fun h => kt (hc.mp h) ad H locs cells slots ls ⟨⟨hP, hD, hS⟩, ⟨hM, hl, hvr, (fun v hv => hvs v (List.mem_cons_of_mem _ (List.mem_cons_of_mem _ hv)))⟩, ⟨⟨hn0, had0⟩, hsA⟩, hcn, hsn, hcl, hsl, hlc, hls⟩) (fun h => kf (fun h2 => h (hc.mpr h2)) ad H locs cells slots ls ⟨⟨hP, hD, hS⟩, ⟨hM, hl, hvr, (fun v hv => hvs v (List.mem_cons_of_mem _ (List.mem_cons_of_mem _ hv)))⟩, ⟨⟨hn0, had0⟩, hsA⟩, hcn, hsn, hcl, hsl, hlc, hls⟩)
theorem G_icmp_ge (hG : Mach own cc nL mn R ret nt L xs Rt G) {x y off : Int} {tgt : Nat} (hdg : decode cc pc = .ok (.if_icmp .ge off, 3)) (ht : (pc : Int) + off = (tgt : Int)) (kt : y ≤ x → G tgt sv ρ M) (kf : ¬ (y ≤ x) → G (pc + 3) sv ρ M) : G pc (.inl y :: .inl x :: sv) ρ M := by
  obtain ⟨p, l, e, s, m, args, below, meth, c, dC, dI, cI, cC, cS, sA, A, n0, S0, ad0, Q, ⟨hx, hb, hml, hown, hts, hK, hA, hSt, hmn, hnL, hRI, hRV⟩, rfl⟩ := hG
  intro ad H locs cells slots ls hpt
  obtain ⟨⟨hP, hD, hS⟩, ⟨hM, hl, hvr, hvs⟩, ⟨⟨hn0, had0⟩, hsA⟩, hcn, hsn, hcl, hsl, hlc, hls⟩ := hpt
  have hyr : inR y := (hvs _ List.mem_cons_self)
  have hxr : inR x := (hvs _ (List.mem_cons_of_mem _ List.mem_cons_self))
  have hc := (zI_le hyr hxr)
  exact lv_icmp_ge hx hb hdg ht (fun h => kt (hc.mp h) ad H locs cells slots ls ⟨⟨hP, hD, hS⟩, ⟨hM, hl, hvr, (fun v hv => hvs v (List.mem_cons_of_mem _ (List.mem_cons_of_mem _ hv)))⟩, ⟨⟨hn0, had0⟩, hsA⟩, hcn, hsn, hcl, hsl, hlc, hls⟩) (fun h => kf (fun h2 => h (hc.mpr h2)) ad H locs cells slots ls ⟨⟨hP, hD, hS⟩, ⟨hM, hl, hvr, (fun v hv => hvs v (List.mem_cons_of_mem _ (List.mem_cons_of_mem _ hv)))⟩, ⟨⟨hn0, had0⟩, hsA⟩, hcn, hsn, hcl, hsl, hlc, hls⟩)
theorem G_icmp_gt (hG : Mach own cc nL mn R ret nt L xs Rt G) {x y off : Int} {tgt : Nat} (hdg : decode cc pc = .ok (.if_icmp .gt off, 3)) (ht : (pc : Int) + off = (tgt : Int)) (kt : y < x → G tgt sv ρ M) (kf : ¬ (y < x) → G (pc + 3) sv ρ M) : G pc (.inl y :: .inl x :: sv) ρ M := by
  obtain ⟨p, l, e, s, m, args, below, meth, c, dC, dI, cI, cC, cS, sA, A, n0, S0, ad0, Q, ⟨hx, hb, hml, hown, hts, hK, hA, hSt, hmn, hnL, hRI, hRV⟩, rfl⟩ := hG
  intro ad H locs cells slots ls hpt
  obtain ⟨⟨hP, hD, hS⟩, ⟨hM, hl, hvr, hvs⟩, ⟨⟨hn0, had0⟩, hsA⟩, hcn, hsn, hcl, hsl, hlc, hls⟩ := hpt
  have hyr : inR y := (hvs _ List.mem_cons_self)
  have hxr : inR x := (hvs _ (List.mem_cons_of_mem _ List.mem_cons_self))
  have hc := (zI_lt hyr hxr)
  exact lv_icmp_gt hx hb hdg ht (fun h => kt (hc.mp h) ad H locs cells slots ls ⟨⟨hP, hD, hS⟩, ⟨hM, hl, hvr, (fun v hv => hvs v (List.mem_cons_of_mem _ (List.mem_cons_of_mem _ hv)))⟩, ⟨⟨hn0, had0⟩, hsA⟩, hcn, hsn, hcl, hsl, hlc, hls⟩) (fun h => kf (fun h2 => h (hc.mpr h2)) ad H locs cells slots ls ⟨⟨hP, hD, hS⟩, ⟨hM, hl, hvr, (fun v hv => hvs v (List.mem_cons_of_mem _ (List.mem_cons_of_mem _ hv)))⟩, ⟨⟨hn0, had0⟩, hsA⟩, hcn, hsn, hcl, hsl, hlc, hls⟩)
theorem G_icmp_le (hG : Mach own cc nL mn R ret nt L xs Rt G) {x y off : Int} {tgt : Nat} (hdg : decode cc pc = .ok (.if_icmp .le off, 3)) (ht : (pc : Int) + off = (tgt : Int)) (kt : x ≤ y → G tgt sv ρ M) (kf : ¬ (x ≤ y) → G (pc + 3) sv ρ M) : G pc (.inl y :: .inl x :: sv) ρ M := by
  obtain ⟨p, l, e, s, m, args, below, meth, c, dC, dI, cI, cC, cS, sA, A, n0, S0, ad0, Q, ⟨hx, hb, hml, hown, hts, hK, hA, hSt, hmn, hnL, hRI, hRV⟩, rfl⟩ := hG
  intro ad H locs cells slots ls hpt
  obtain ⟨⟨hP, hD, hS⟩, ⟨hM, hl, hvr, hvs⟩, ⟨⟨hn0, had0⟩, hsA⟩, hcn, hsn, hcl, hsl, hlc, hls⟩ := hpt
  have hyr : inR y := (hvs _ List.mem_cons_self)
  have hxr : inR x := (hvs _ (List.mem_cons_of_mem _ List.mem_cons_self))
  have hc := (zI_le hxr hyr)
  exact lv_icmp_le hx hb hdg ht (fun h => kt (hc.mp h) ad H locs cells slots ls ⟨⟨hP, hD, hS⟩, ⟨hM, hl, hvr, (fun v hv => hvs v (List.mem_cons_of_mem _ (List.mem_cons_of_mem _ hv)))⟩, ⟨⟨hn0, had0⟩, hsA⟩, hcn, hsn, hcl, hsl, hlc, hls⟩) (fun h => kf (fun h2 => h (hc.mpr h2)) ad H locs cells slots ls ⟨⟨hP, hD, hS⟩, ⟨hM, hl, hvr, (fun v hv => hvs v (List.mem_cons_of_mem _ (List.mem_cons_of_mem _ hv)))⟩, ⟨⟨hn0, had0⟩, hsA⟩, hcn, hsn, hcl, hsl, hlc, hls⟩)
theorem G_goto (hG : Mach own cc nL mn R ret nt L xs Rt G) {off : Int} {tgt : Nat} (hdg : decode cc pc = .ok (.goto off, 3)) (ht : (pc : Int) + off = (tgt : Int)) (k : G tgt sv ρ M) : G pc sv ρ M := by
  obtain ⟨p, l, e, s, m, args, below, meth, c, dC, dI, cI, cC, cS, sA, A, n0, S0, ad0, Q, ⟨hx, hb, hml, hown, hts, hK, hA, hSt, hmn, hnL, hRI, hRV⟩, rfl⟩ := hG
  intro ad H locs cells slots ls hpt
  obtain ⟨⟨hP, hD, hS⟩, ⟨hM, hl, hvr, hvs⟩, ⟨⟨hn0, had0⟩, hsA⟩, hcn, hsn, hcl, hsl, hlc, hls⟩ := hpt
  exact lv_goto hx hb hdg ht (k ad H locs cells slots ls ⟨⟨hP, hD, hS⟩, ⟨hM, hl, hvr, hvs⟩, ⟨⟨hn0, had0⟩, hsA⟩, hcn, hsn, hcl, hsl, hlc, hls⟩)
theorem G_ifnull (hG : Mach own cc nL mn R ret nt L xs Rt G) {r : Option Nat} {off : Int} {tgt : Nat} (hdg : decode cc pc = .ok (.ifnull off, 3)) (ht : (pc : Int) + off = (tgt : Int)) (kt : r = none → G tgt sv ρ M) (kf : r ≠ none → G (pc + 3) sv ρ M) : G pc (.inr r :: sv) ρ M := by
  obtain ⟨p, l, e, s, m, args, below, meth, c, dC, dI, cI, cC, cS, sA, A, n0, S0, ad0, Q, ⟨hx, hb, hml, hown, hts, hK, hA, hSt, hmn, hnL, hRI, hRV⟩, rfl⟩ := hG
  intro ad H locs cells slots ls hpt
  obtain ⟨⟨hP, hD, hS⟩, ⟨hM, hl, hvr, hvs⟩, ⟨⟨hn0, had0⟩, hsA⟩, hcn, hsn, hcl, hsl, hlc, hls⟩ := hpt
  cases r with
  | none => exact lv_ifnullN hx hb hdg ht (kt rfl ad H locs cells slots ls ⟨⟨hP, hD, hS⟩, ⟨hM, hl, hvr, (fun v hv => hvs v (List.mem_cons_of_mem _ hv))⟩, ⟨⟨hn0, had0⟩, hsA⟩, hcn, hsn, hcl, hsl, hlc, hls⟩)
  | some q => exact lv_ifnull hx hb hdg (kf (fun h => by cases h) ad H locs cells slots ls ⟨⟨hP, hD, hS⟩, ⟨hM, hl, hvr, (fun v hv => hvs v (List.mem_cons_of_mem _ hv))⟩, ⟨⟨hn0, had0⟩, hsA⟩, hcn, hsn, hcl, hsl, hlc, hls⟩)
theorem G_pop (hG : Mach own cc nL mn R ret nt L xs Rt G) {v : Vv} (hdg : decode cc pc = .ok (.pop, 1)) (k : G (pc + 1) sv ρ M) : G pc (v :: sv) ρ M := by
  obtain ⟨p, l, e, s, m, args, below, meth, c, dC, dI, cI, cC, cS, sA, A, n0, S0, ad0, Q, ⟨hx, hb, hml, hown, hts, hK, hA, hSt, hmn, hnL, hRI, hRV⟩, rfl⟩ := hG
  intro ad H locs cells slots ls hpt
  obtain ⟨⟨hP, hD, hS⟩, ⟨hM, hl, hvr, hvs⟩, ⟨⟨hn0, had0⟩, hsA⟩, hcn, hsn, hcl, hsl, hlc, hls⟩ := hpt
  exact lv_pop hx hb hdg (cv_cat ad v) (k ad H locs cells slots ls ⟨⟨hP, hD, hS⟩, ⟨hM, hl, hvr, (fun v hv => hvs v (List.mem_cons_of_mem _ hv))⟩, ⟨⟨hn0, had0⟩, hsA⟩, hcn, hsn, hcl, hsl, hlc, hls⟩)
theorem G_dup (hG : Mach own cc nL mn R ret nt L xs Rt G) {v : Vv} (hdg : decode cc pc = .ok (.dup, 1)) (k : G (pc + 1) (v :: v :: sv) ρ M) : G pc (v :: sv) ρ M := by
  obtain ⟨p, l, e, s, m, args, below, meth, c, dC, dI, cI, cC, cS, sA, A, n0, S0, ad0, Q, ⟨hx, hb, hml, hown, hts, hK, hA, hSt, hmn, hnL, hRI, hRV⟩, rfl⟩ := hG
  intro ad H locs cells slots ls hpt
  obtain ⟨⟨hP, hD, hS⟩, ⟨hM, hl, hvr, hvs⟩, ⟨⟨hn0, had0⟩, hsA⟩, hcn, hsn, hcl, hsl, hlc, hls⟩ := hpt
  exact lv_dup hx hb hdg (cv_cat ad v) (k ad H locs cells slots ls ⟨⟨hP, hD, hS⟩, ⟨hM, hl, hvr, (List.forall_mem_cons.mpr ⟨(hvs _ List.mem_cons_self), hvs⟩)⟩, ⟨⟨hn0, had0⟩, hsA⟩, hcn, hsn, hcl, hsl, hlc, hls⟩)
theorem G_dup2 (hG : Mach own cc nL mn R ret nt L xs Rt G) {v w : Vv} (hdg : decode cc pc = .ok (.dup2, 1)) (k : G (pc + 1) (v :: w :: v :: w :: sv) ρ M) : G pc (v :: w :: sv) ρ M := by
  obtain ⟨p, l, e, s, m, args, below, meth, c, dC, dI, cI, cC, cS, sA, A, n0, S0, ad0, Q, ⟨hx, hb, hml, hown, hts, hK, hA, hSt, hmn, hnL, hRI, hRV⟩, rfl⟩ := hG
  intro ad H locs cells slots ls hpt
  obtain ⟨⟨hP, hD, hS⟩, ⟨hM, hl, hvr, hvs⟩, ⟨⟨hn0, had0⟩, hsA⟩, hcn, hsn, hcl, hsl, hlc, hls⟩ := hpt
  exact lv_dup2_11 hx hb hdg (cv_cat ad v) (cv_cat ad w) (k ad H locs cells slots ls ⟨⟨hP, hD, hS⟩, ⟨hM, hl, hvr, (List.forall_mem_cons.mpr ⟨(hvs _ List.mem_cons_self), (List.forall_mem_cons.mpr ⟨(hvs _ (List.mem_cons_of_mem _ List.mem_cons_self)), hvs⟩)⟩)⟩, ⟨⟨hn0, had0⟩, hsA⟩, hcn, hsn, hcl, hsl, hlc, hls⟩)
theorem G_tab (hG : Mach own cc nL mn R ret nt L xs Rt G) {x dflt lo hi : Int} {offs : Array Int} {len : Nat} (hdg : decode cc pc = .ok (.tableswitch dflt lo hi offs, len)) (tgt : Int → Nat) (dt : Nat) (hd : (pc : Int) + dflt = (dt : Int)) (ho : ∀ z : Int, lo ≤ z → z ≤ hi → ∃ off, offs[(z - lo).toNat]? = some off ∧ (pc : Int) + off = (tgt z : Int)) (ki : lo ≤ x → x ≤ hi → G (tgt x) sv ρ M) (ko : ¬ (lo ≤ x ∧ x ≤ hi) → G dt sv ρ M) : G pc (.inl x :: sv) ρ M := by
  obtain ⟨p, l, e, s, m, args, below, meth, c, dC, dI, cI, cC, cS, sA, A, n0, S0, ad0, Q, ⟨hx, hb, hml, hown, hts, hK, hA, hSt, hmn, hnL, hRI, hRV⟩, rfl⟩ := hG
  intro ad H locs cells slots ls hpt
  obtain ⟨⟨hP, hD, hS⟩, ⟨hM, hl, hvr, hvs⟩, ⟨⟨hn0, had0⟩, hsA⟩, hcn, hsn, hcl, hsl, hlc, hls⟩ := hpt
  have hxr : inR x := (hvs _ List.mem_cons_self)
  by_cases h : lo ≤ x ∧ x ≤ hi
  · obtain ⟨off, h1, h2⟩ := ho x h.1 h.2
    exact lv_tableIn hx hb hdg (by rw [zI_toInt hxr]; omega) (by rw [zI_toInt hxr]; omega) (by rw [zI_toInt hxr]; exact h1) h2 (ki h.1 h.2 ad H locs cells slots ls ⟨⟨hP, hD, hS⟩, ⟨hM, hl, hvr, (fun v hv => hvs v (List.mem_cons_of_mem _ hv))⟩, ⟨⟨hn0, had0⟩, hsA⟩, hcn, hsn, hcl, hsl, hlc, hls⟩)
  · exact lv_tableOut hx hb hdg (by rw [zI_toInt hxr]; omega) hd (ko h ad H locs cells slots ls ⟨⟨hP, hD, hS⟩, ⟨hM, hl, hvr, (fun v hv => hvs v (List.mem_cons_of_mem _ hv))⟩, ⟨⟨hn0, had0⟩, hsA⟩, hcn, hsn, hcl, hsl, hlc, hls⟩)
theorem G_i2c (hG : Mach own cc nL mn R ret nt L xs Rt G) {x : Int} (hdg : decode cc pc = .ok (.i2c, 1)) (k : G (pc + 1) (.inl (x % 65536) :: sv) ρ M) : G pc (.inl x :: sv) ρ M := by
  obtain ⟨p, l, e, s, m, args, below, meth, c, dC, dI, cI, cC, cS, sA, A, n0, S0, ad0, Q, ⟨hx, hb, hml, hown, hts, hK, hA, hSt, hmn, hnL, hRI, hRV⟩, rfl⟩ := hG
  intro ad H locs cells slots ls hpt
  obtain ⟨⟨hP, hD, hS⟩, ⟨hM, hl, hvr, hvs⟩, ⟨⟨hn0, had0⟩, hsA⟩, hcn, hsn, hcl, hsl, hlc, hls⟩ := hpt
  have hxr : inR x := (hvs _ List.mem_cons_self)
  have hv : ((zI x).toUInt32 % 65536).toInt32 = zI (x % 65536) := zI_char hxr
  exact lv_i2c hx hb hdg hv (k ad H locs cells slots ls ⟨⟨hP, hD, hS⟩, ⟨hM, hl, hvr, (List.forall_mem_cons.mpr ⟨⟨by omega, by omega⟩, (fun v hv => hvs v (List.mem_cons_of_mem _ hv))⟩)⟩, ⟨⟨hn0, had0⟩, hsA⟩, hcn, hsn, hcl, hsl, hlc, hls⟩)
theorem G_iand (hG : Mach own cc nL mn R ret nt L xs Rt G) {x : Int} (hdg : decode cc pc = .ok (.iand, 1)) (k : G (pc + 1) (.inl (x % 32) :: sv) ρ M) : G pc (.inl 31 :: .inl x :: sv) ρ M := by
  obtain ⟨p, l, e, s, m, args, below, meth, c, dC, dI, cI, cC, cS, sA, A, n0, S0, ad0, Q, ⟨hx, hb, hml, hown, hts, hK, hA, hSt, hmn, hnL, hRI, hRV⟩, rfl⟩ := hG
  intro ad H locs cells slots ls hpt
  obtain ⟨⟨hP, hD, hS⟩, ⟨hM, hl, hvr, hvs⟩, ⟨⟨hn0, had0⟩, hsA⟩, hcn, hsn, hcl, hsl, hlc, hls⟩ := hpt
  have hxr : inR x := (hvs _ (List.mem_cons_of_mem _ List.mem_cons_self))
  have hv : zI x &&& zI 31 = zI (x % 32) := zI_and31 hxr
  refine lv_iand hx hb hdg ?_
  rw [hv]
  exact k ad H locs cells slots ls ⟨⟨hP, hD, hS⟩, ⟨hM, hl, hvr, (List.forall_mem_cons.mpr ⟨⟨by omega, by omega⟩, (fun v hv => hvs v (List.mem_cons_of_mem _ (List.mem_cons_of_mem _ hv)))⟩)⟩, ⟨⟨hn0, had0⟩, hsA⟩, hcn, hsn, hcl, hsl, hlc, hls⟩
end RULES
end
section
theorem tb_good : ∀ w ∈ gtb, (w.onTables && w.keeps) = true ∨ ∃ ty, w = .arrayClass ty := fun w hw => good_of_word (List.mem_filter.mp hw).2
theorem good_sub {ws : List Cond} (h : ∀ w ∈ ws, w ∈ gtb) : GoodIn gtb ws := fun w hw => ⟨h w hw, tb_good w (h w hw)⟩
theorem in_p (ws : List Cond) (ps : List Nat) (h : ps.map (fun i => lw_tbl[i]?) = ws.map some) (hg : ws.all goodWord = true) : ∀ w ∈ ws, w ∈ gtb := by
  intro w hw
  have h1 : some w ∈ ps.map (fun i => lw_tbl[i]?) := by rw [h]; exact List.mem_map.mpr ⟨w, hw, rfl⟩
  obtain ⟨i, -, hi⟩ := List.mem_map.mp h1
  exact List.mem_filter.mpr ⟨List.mem_of_getElem? hi, List.all_eq_true.mp hg w hw⟩
/-- what the tables say of a field that is read -/
def Fok (own : String) (idx ci j : Nat) (r : Bool) : Prop := ∃ (C : String) (T : u_T) (N : Nat), vwCl[ci]? = some (C, T, N) ∧ j < N ∧ (∀ w ∈ u_ws C T N, w ∈ gtb) ∧ Cond.fieldLink own idx C (T j).2.1 (T j).2.2.1 ∈ gtb ∧ (T j).1 = C ∧ (clR ci)[j]? = some r ∧ ci < 8
/-- .. that is put -/
def Pok (own : String) (idx ci j : Nat) (r : Bool) (ty : FieldType) (fin : Bool) : Prop := ∃ (C : String) (T : u_T) (N : Nat) (ty0 : Nat → FieldType), vwCl[ci]? = some (C, T, N) ∧ j < N ∧ (∀ w ∈ u_ws C T N, w ∈ gtb) ∧ (∀ k, k < N → parseFieldDescriptor (T k).2.2.1 = some (ty0 k)) ∧ (∀ a, a < N → ∀ b, b < N → a ≠ b → (T a).2.1 ≠ (T b).2.1) ∧ Cond.fieldLink own idx C (T j).2.1 (T j).2.2.1 ∈ gtb ∧ (T j).1 = C ∧ (T j).2.2.2 = fin ∧ parseFieldDescriptor (T j).2.2.1 = some ty ∧ (clR ci)[j]? = some r ∧ ci < 8 ∧ (fin = true → C = own)
theorem cell_ob {cI cC cS : ClassId} {ad : Nat → Nat} {M : Mm} {q ci w : Nat} (h : ci < 8) : cellE cI cC cS ad M q (ci, w) = .inr (ci, fvs ad M q (clR ci)) := by simp [cellE, h]
theorem cell_in {cI cC cS : ClassId} {ad : Nat → Nat} {M : Mm} {q n : Nat} : cellE cI cC cS ad M q (20, n) = .inl (cI, n, .inl (fun j => zI (M.2.1 q j))) := by simp [cellE]
theorem cell_ch {cI cC cS : ClassId} {ad : Nat → Nat} {M : Mm} {q n : Nat} : cellE cI cC cS ad M q (21, n) = .inl (cC, n, .inl (fun j => zI (M.2.1 q j))) := by simp [cellE]
theorem cell_rf {cI cC cS : ClassId} {ad : Nat → Nat} {M : Mm} {q n : Nat} : cellE cI cC cS ad M q (22, n) = .inl (cS, n, .inr (.inr (.inr (.inr (fun j => (M.2.2 q j).map ad))))) := by simp [cellE]
theorem cv_rf (ad : Nat → Nat) (r : Option Nat) : va_rf (r.map ad) = cv ad (.inr r) := by cases r <;> rfl
theorem vok_rf {M : Mm} (h : MOK M) (q j : Nat) : vok M (.inr (M.2.2 q j)) := by
  cases e : M.2.2 q j with
  | none => trivial
  | some k => exact Or.inl (h.2.2.1 q j k e)
theorem upd_si {M : Mm} {q k : Nat} {z : Int} : upd (fun j => zI (M.2.1 q j)) k (zI z) = fun j => zI ((si M q k z).2.1 q j) := by
  funext j
  simp only [upd, si]
  split <;> simp_all
theorem up_sr {ad : Nat → Nat} {M : Mm} {q k v : Nat} : va_up (fun j => (M.2.2 q j).map ad) k (some (ad v)) = fun j => ((sr M q k (some v)).2.2 q j).map ad := by
  funext j
  simp only [va_up, sr]
  split <;> simp_all
section RULES
variable {own : String} {cc : ByteArray} {nL : Nat} {mn : String} {R : Room} {ret : Option FieldType} {nt L : Nat} {xs : Nat → Int} {Rt : Int → Mm → Prop} {G : Gt} {pc : Nat} {sv : List Vv} {ρ : En} {M : Mm}
theorem G_getI (hG : Mach own cc nL mn R ret nt L xs Rt G) {q w idx ci j : Nat} (F : Fok own idx ci j false) (hsh : M.1[q]? = some (ci, w)) (hdg : decode cc pc = .ok (.getfield idx, 3)) (k : G (pc + 3) (.inl (M.2.1 q j) :: sv) ρ M) : G pc (.inr (some q) :: sv) ρ M := by
  obtain ⟨p, l, e, s, m, args, below, meth, c, dC, dI, cI, cC, cS, sA, A, n0, S0, ad0, Q, ⟨hx, hb, hml, hown, hts, hK, hA, hSt, hmn, hnL, hRI, hRV⟩, rfl⟩ := hG
  intro ad H locs cells slots ls hpt
  obtain ⟨⟨hP, hD, hS⟩, ⟨hM, hl, hvr, hvs⟩, ⟨⟨hn0, had0⟩, hsA⟩, hcn, hsn, hcl, hsl, hlc, hls⟩ := hpt
  obtain ⟨C, T, N, hc, hj, hin, hlk, hC, hr, hci⟩ := F
  have he := ws_get (cI := cI) (cC := cC) (cS := cS) (ad := ad) hsh
  rw [cell_ob hci] at he
  exact va_get (D := (dC, dI)) (v := .int (zI (M.2.1 q j))) hx hb hts hin hown hK hP q he hc j hj (hts _ hlk) (by rw [hC]; exact fun _ h => h) (by rw [fvs_get hr]; rfl) hdg (k ad H locs cells slots ls ⟨⟨hP, hD, hS⟩, ⟨hM, hl, hvr, (List.forall_mem_cons.mpr ⟨(hM.2.1 q j), (fun v hv => hvs v (List.mem_cons_of_mem _ hv))⟩)⟩, ⟨⟨hn0, had0⟩, hsA⟩, hcn, hsn, hcl, hsl, hlc, hls⟩)
theorem G_getR (hG : Mach own cc nL mn R ret nt L xs Rt G) {q w idx ci j : Nat} (F : Fok own idx ci j true) (hsh : M.1[q]? = some (ci, w)) (hdg : decode cc pc = .ok (.getfield idx, 3)) (k : G (pc + 3) (.inr (M.2.2 q j) :: sv) ρ M) : G pc (.inr (some q) :: sv) ρ M := by
  obtain ⟨p, l, e, s, m, args, below, meth, c, dC, dI, cI, cC, cS, sA, A, n0, S0, ad0, Q, ⟨hx, hb, hml, hown, hts, hK, hA, hSt, hmn, hnL, hRI, hRV⟩, rfl⟩ := hG
  intro ad H locs cells slots ls hpt
  obtain ⟨⟨hP, hD, hS⟩, ⟨hM, hl, hvr, hvs⟩, ⟨⟨hn0, had0⟩, hsA⟩, hcn, hsn, hcl, hsl, hlc, hls⟩ := hpt
  obtain ⟨C, T, N, hc, hj, hin, hlk, hC, hr, hci⟩ := F
  have he := ws_get (cI := cI) (cC := cC) (cS := cS) (ad := ad) hsh
  rw [cell_ob hci] at he
  exact va_get (D := (dC, dI)) (v := cv ad (.inr (M.2.2 q j))) hx hb hts hin hown hK hP q he hc j hj (hts _ hlk) (by rw [hC]; exact fun _ h => h) (by rw [fvs_get hr, if_pos rfl, cv_rf]) hdg (k ad H locs cells slots ls ⟨⟨hP, hD, hS⟩, ⟨hM, hl, hvr, (List.forall_mem_cons.mpr ⟨(vok_rf hM q j), (fun v hv => hvs v (List.mem_cons_of_mem _ hv))⟩)⟩, ⟨⟨hn0, had0⟩, hsA⟩, hcn, hsn, hcl, hsl, hlc, hls⟩)
theorem G_putI (hG : Mach own cc nL mn R ret nt L xs Rt G) {q w idx ci j : Nat} {z : Int} {ty : FieldType} (F : Pok own idx ci j false ty false) (hsh : M.1[q]? = some (ci, w)) (hn : narrow ty (.int (zI z)) = .int (zI z)) (hft : fits ty (.int (zI z)) = true) (hdg : decode cc pc = .ok (.putfield idx, 3)) (k : G (pc + 3) sv ρ (si M q j z)) : G pc (.inl z :: .inr (some q) :: sv) ρ M := by
  obtain ⟨p, l, e, s, m, args, below, meth, c, dC, dI, cI, cC, cS, sA, A, n0, S0, ad0, Q, ⟨hx, hb, hml, hown, hts, hK, hA, hSt, hmn, hnL, hRI, hRV⟩, rfl⟩ := hG
  intro ad H locs cells slots ls hpt
  obtain ⟨⟨hP, hD, hS⟩, ⟨hM, hl, hvr, hvs⟩, ⟨⟨hn0, had0⟩, hsA⟩, hcn, hsn, hcl, hsl, hlc, hls⟩ := hpt
  obtain ⟨C, T, N, ty0, hc, hj, hin, hty, hnm, hlk, hC, hfin, hpd, hr, hci, -⟩ := F
  have he := ws_get (cI := cI) (cC := cC) (cS := cS) (ad := ad) hsh
  rw [cell_ob hci] at he
  have hzr : inR z := (hvs _ List.mem_cons_self)
  have hlq : q < M.1.length := (List.getElem?_eq_some_iff.mp hsh).1
  have hup := ws_upd (cI := cI) (cC := cC) (cS := cS) (ad := ad) (M' := si M q j z) hsh rfl cell_si
  rw [cell_ob hci, ← fvs_si hr] at hup
  refine va_put (D := (dC, dI)) (v := .int (zI z)) hx hb hts hin ty0 hty hnm hown hK hP hD hS q he hc j hj (hts _ hlk) (by rw [hC]; exact fun _ h => h) hfin hpd hn hft (by rw [fvs_len]; exact (List.getElem?_eq_some_iff.mp hr).1) hdg (fun H1 locs1 hP1 hD1 hS1 => ?_)
  rw [hup] at hP1 hD1
  exact k ad H1 locs1 cells slots ls ⟨⟨hP1, hD1, hS1⟩, ⟨MOK_si hM hlq hzr, hl, hvr, (fun v hv => hvs v (List.mem_cons_of_mem _ (List.mem_cons_of_mem _ hv)))⟩, ⟨⟨hn0, had0⟩, hsA⟩, hcn, hsn, hcl, hsl, hlc, hls⟩
theorem G_putR (hG : Mach own cc nL mn R ret nt L xs Rt G) {q w idx ci j v : Nat} {ty : FieldType} (F : Pok own idx ci j true ty true) (hmi : mn = "<init>") (hsh : M.1[q]? = some (ci, w)) (hv : v < M.1.length) (hn : ∀ a : Nat, narrow ty (.ref a) = .ref a) (hft : ∀ a : Nat, fits ty (.ref a) = true) (hdg : decode cc pc = .ok (.putfield idx, 3)) (k : G (pc + 3) sv ρ (sr M q j (some v))) : G pc (.inr (some v) :: .inr (some q) :: sv) ρ M := by
  obtain ⟨p, l, e, s, m, args, below, meth, c, dC, dI, cI, cC, cS, sA, A, n0, S0, ad0, Q, ⟨hx, hb, hml, hown, hts, hK, hA, hSt, hmn, hnL, hRI, hRV⟩, rfl⟩ := hG
  intro ad H locs cells slots ls hpt
  obtain ⟨⟨hP, hD, hS⟩, ⟨hM, hl, hvr, hvs⟩, ⟨⟨hn0, had0⟩, hsA⟩, hcn, hsn, hcl, hsl, hlc, hls⟩ := hpt
  obtain ⟨C, T, N, ty0, hc, hj, hin, hty, hnm, hlk, hC, hfin, hpd, hr, hci, hCo⟩ := F
  have he := ws_get (cI := cI) (cC := cC) (cS := cS) (ad := ad) hsh
  rw [cell_ob hci] at he
  have hlq : q < M.1.length := (List.getElem?_eq_some_iff.mp hsh).1
  have hup := ws_upd (cI := cI) (cC := cC) (cS := cS) (ad := ad) (M' := sr M q j (some v)) hsh rfl cell_sr
  rw [cell_ob hci, ← fvs_sr hr] at hup
  refine va_putF (D := (dC, dI)) (v := va_rf ((some v).map ad)) hx hb hts hin ty0 hty hnm hown hK hP hD hS q he hc j hj (hts _ hlk) (by rw [hC]; exact fun _ h => h) hfin (hmn.trans hmi) (by rw [hC]; exact hCo rfl) hpd (hn (ad v)) (hft (ad v)) (by rw [fvs_len]; exact (List.getElem?_eq_some_iff.mp hr).1) hdg (fun H1 locs1 hP1 hD1 hS1 => ?_)
  rw [hup] at hP1 hD1
  exact k ad H1 locs1 cells slots ls ⟨⟨hP1, hD1, hS1⟩, ⟨MOK_sr hM hlq (fun j h => by cases h; exact hv), hl, hvr, (fun v hv => hvs v (List.mem_cons_of_mem _ (List.mem_cons_of_mem _ hv)))⟩, ⟨⟨hn0, had0⟩, hsA⟩, hcn, hsn, hcl, hsl, hlc, hls⟩
theorem G_iald (hG : Mach own cc nL mn R ret nt L xs Rt G) {q n : Nat} {j : Int} (hsh : M.1[q]? = some (20, n)) (h0 : 0 ≤ j) (h1 : j < (n : Int)) (hdg : decode cc pc = .ok (.iaload, 1)) (k : G (pc + 1) (.inl (M.2.1 q j.toNat) :: sv) ρ M) : G pc (.inl j :: .inr (some q) :: sv) ρ M := by
  obtain ⟨p, l, e, s, m, args, below, meth, c, dC, dI, cI, cC, cS, sA, A, n0, S0, ad0, Q, ⟨hx, hb, hml, hown, hts, hK, hA, hSt, hmn, hnL, hRI, hRV⟩, rfl⟩ := hG
  intro ad H locs cells slots ls hpt
  obtain ⟨⟨hP, hD, hS⟩, ⟨hM, hl, hvr, hvs⟩, ⟨⟨hn0, had0⟩, hsA⟩, hcn, hsn, hcl, hsl, hlc, hls⟩ := hpt
  have he := ws_get (cI := cI) (cC := cC) (cS := cS) (ad := ad) hsh
  rw [cell_in] at he
  have hjr : inR j := (hvs _ List.mem_cons_self)
  refine va_iald hx hb hK hP q 0 he rfl (zI_in hjr h0 h1) hdg ?_
  rw [zI_cl hjr]
  exact k ad H locs cells slots ls ⟨⟨hP, hD, hS⟩, ⟨hM, hl, hvr, (List.forall_mem_cons.mpr ⟨(hM.2.1 q j.toNat), (fun v hv => hvs v (List.mem_cons_of_mem _ (List.mem_cons_of_mem _ hv)))⟩)⟩, ⟨⟨hn0, had0⟩, hsA⟩, hcn, hsn, hcl, hsl, hlc, hls⟩
theorem G_cald (hG : Mach own cc nL mn R ret nt L xs Rt G) {q n : Nat} {j : Int} (hsh : M.1[q]? = some (21, n)) (h0 : 0 ≤ j) (h1 : j < (n : Int)) (hdg : decode cc pc = .ok (.caload, 1)) (k : G (pc + 1) (.inl (M.2.1 q j.toNat) :: sv) ρ M) : G pc (.inl j :: .inr (some q) :: sv) ρ M := by
  obtain ⟨p, l, e, s, m, args, below, meth, c, dC, dI, cI, cC, cS, sA, A, n0, S0, ad0, Q, ⟨hx, hb, hml, hown, hts, hK, hA, hSt, hmn, hnL, hRI, hRV⟩, rfl⟩ := hG
  intro ad H locs cells slots ls hpt
  obtain ⟨⟨hP, hD, hS⟩, ⟨hM, hl, hvr, hvs⟩, ⟨⟨hn0, had0⟩, hsA⟩, hcn, hsn, hcl, hsl, hlc, hls⟩ := hpt
  have he := ws_get (cI := cI) (cC := cC) (cS := cS) (ad := ad) hsh
  rw [cell_ch] at he
  have hjr : inR j := (hvs _ List.mem_cons_self)
  refine va_cald hx hb hK hP q 1 he rfl (zI_in hjr h0 h1) hdg ?_
  rw [zI_cl hjr]
  exact k ad H locs cells slots ls ⟨⟨hP, hD, hS⟩, ⟨hM, hl, hvr, (List.forall_mem_cons.mpr ⟨(hM.2.1 q j.toNat), (fun v hv => hvs v (List.mem_cons_of_mem _ (List.mem_cons_of_mem _ hv)))⟩)⟩, ⟨⟨hn0, had0⟩, hsA⟩, hcn, hsn, hcl, hsl, hlc, hls⟩
theorem G_aald (hG : Mach own cc nL mn R ret nt L xs Rt G) {q n : Nat} {j : Int} (hsh : M.1[q]? = some (22, n)) (h0 : 0 ≤ j) (h1 : j < (n : Int)) (hdg : decode cc pc = .ok (.aaload, 1)) (k : G (pc + 1) (.inr (M.2.2 q j.toNat) :: sv) ρ M) : G pc (.inl j :: .inr (some q) :: sv) ρ M := by
  obtain ⟨p, l, e, s, m, args, below, meth, c, dC, dI, cI, cC, cS, sA, A, n0, S0, ad0, Q, ⟨hx, hb, hml, hown, hts, hK, hA, hSt, hmn, hnL, hRI, hRV⟩, rfl⟩ := hG
  intro ad H locs cells slots ls hpt
  obtain ⟨⟨hP, hD, hS⟩, ⟨hM, hl, hvr, hvs⟩, ⟨⟨hn0, had0⟩, hsA⟩, hcn, hsn, hcl, hsl, hlc, hls⟩ := hpt
  have he := ws_get (cI := cI) (cC := cC) (cS := cS) (ad := ad) hsh
  rw [cell_rf] at he
  have hjr : inR j := (hvs _ List.mem_cons_self)
  refine va_aldq hx hb hK hP q 2 he rfl (zI_in hjr h0 h1) hdg ?_
  rw [zI_cl hjr, cv_rf]
  exact k ad H locs cells slots ls ⟨⟨hP, hD, hS⟩, ⟨hM, hl, hvr, (List.forall_mem_cons.mpr ⟨(vok_rf hM q j.toNat), (fun v hv => hvs v (List.mem_cons_of_mem _ (List.mem_cons_of_mem _ hv)))⟩)⟩, ⟨⟨hn0, had0⟩, hsA⟩, hcn, hsn, hcl, hsl, hlc, hls⟩
theorem G_iast (hG : Mach own cc nL mn R ret nt L xs Rt G) {q n : Nat} {j z : Int} (hsh : M.1[q]? = some (20, n)) (h0 : 0 ≤ j) (h1 : j < (n : Int)) (hdg : decode cc pc = .ok (.iastore, 1)) (k : G (pc + 1) sv ρ (si M q j.toNat z)) : G pc (.inl z :: .inl j :: .inr (some q) :: sv) ρ M := by
  obtain ⟨p, l, e, s, m, args, below, meth, c, dC, dI, cI, cC, cS, sA, A, n0, S0, ad0, Q, ⟨hx, hb, hml, hown, hts, hK, hA, hSt, hmn, hnL, hRI, hRV⟩, rfl⟩ := hG
  intro ad H locs cells slots ls hpt
  obtain ⟨⟨hP, hD, hS⟩, ⟨hM, hl, hvr, hvs⟩, ⟨⟨hn0, had0⟩, hsA⟩, hcn, hsn, hcl, hsl, hlc, hls⟩ := hpt
  have he := ws_get (cI := cI) (cC := cC) (cS := cS) (ad := ad) hsh
  rw [cell_in] at he
  have hzr : inR z := (hvs _ List.mem_cons_self)
  have hjr : inR j := (hvs _ (List.mem_cons_of_mem _ List.mem_cons_self))
  have hlq : q < M.1.length := (List.getElem?_eq_some_iff.mp hsh).1
  have hup := ws_upd (cI := cI) (cC := cC) (cS := cS) (ad := ad) (M' := si M q j.toNat z) hsh rfl cell_si
  rw [cell_in, ← upd_si] at hup
  refine va_iast hx hb hK hP hD hS q 0 he rfl (zI_in hjr h0 h1) hdg (fun H1 locs1 hP1 hD1 hS1 => ?_)
  rw [zI_cl hjr, hup] at hP1 hD1
  exact k ad H1 locs1 cells slots ls ⟨⟨hP1, hD1, hS1⟩, ⟨MOK_si hM hlq hzr, hl, hvr, (fun v hv => hvs v (List.mem_cons_of_mem _ (List.mem_cons_of_mem _ (List.mem_cons_of_mem _ hv))))⟩, ⟨⟨hn0, had0⟩, hsA⟩, hcn, hsn, hcl, hsl, hlc, hls⟩
theorem G_cast (hG : Mach own cc nL mn R ret nt L xs Rt G) {q n : Nat} {j z : Int} (hsh : M.1[q]? = some (21, n)) (h0 : 0 ≤ j) (h1 : j < (n : Int)) (hz0 : 0 ≤ z) (hz1 : z < 65536) (hdg : decode cc pc = .ok (.castore, 1)) (k : G (pc + 1) sv ρ (si M q j.toNat z)) : G pc (.inl z :: .inl j :: .inr (some q) :: sv) ρ M := by
  obtain ⟨p, l, e, s, m, args, below, meth, c, dC, dI, cI, cC, cS, sA, A, n0, S0, ad0, Q, ⟨hx, hb, hml, hown, hts, hK, hA, hSt, hmn, hnL, hRI, hRV⟩, rfl⟩ := hG
  intro ad H locs cells slots ls hpt
  obtain ⟨⟨hP, hD, hS⟩, ⟨hM, hl, hvr, hvs⟩, ⟨⟨hn0, had0⟩, hsA⟩, hcn, hsn, hcl, hsl, hlc, hls⟩ := hpt
  have he := ws_get (cI := cI) (cC := cC) (cS := cS) (ad := ad) hsh
  rw [cell_ch] at he
  have hzr : inR z := (hvs _ List.mem_cons_self)
  have hjr : inR j := (hvs _ (List.mem_cons_of_mem _ List.mem_cons_self))
  have hlq : q < M.1.length := (List.getElem?_eq_some_iff.mp hsh).1
  have hup := ws_upd (cI := cI) (cC := cC) (cS := cS) (ad := ad) (M' := si M q j.toNat z) hsh rfl cell_si
  rw [cell_ch, ← upd_si] at hup
  have hnr : vp_nar .char (zI z) = zI z := by
    obtain ⟨n, rfl⟩ := Int.eq_ofNat_of_zero_le hz0
    rw [zI_nat]
    have := (pk_charN (q := n) (by omega)).1
    unfold vp_nar
    rw [this]
  refine va_cast hx hb hK hP hD hS q 1 he rfl (zI_in hjr h0 h1) hdg (fun H1 locs1 hP1 hD1 hS1 => ?_)
  rw [zI_cl hjr, hnr, hup] at hP1 hD1
  exact k ad H1 locs1 cells slots ls ⟨⟨hP1, hD1, hS1⟩, ⟨MOK_si hM hlq hzr, hl, hvr, (fun v hv => hvs v (List.mem_cons_of_mem _ (List.mem_cons_of_mem _ (List.mem_cons_of_mem _ hv))))⟩, ⟨⟨hn0, had0⟩, hsA⟩, hcn, hsn, hcl, hsl, hlc, hls⟩
theorem G_aast (hG : Mach own cc nL mn R ret nt L xs Rt G) {q n v w : Nat} {j : Int} (hsh : M.1[q]? = some (22, n)) (hv : M.1[v]? = some (4, w)) (h0 : 0 ≤ j) (h1 : j < (n : Int)) (hdg : decode cc pc = .ok (.aastore, 1)) (k : G (pc + 1) sv ρ (sr M q j.toNat (some v))) : G pc (.inr (some v) :: .inl j :: .inr (some q) :: sv) ρ M := by
  obtain ⟨p, l, e, s, m, args, below, meth, c, dC, dI, cI, cC, cS, sA, A, n0, S0, ad0, Q, ⟨hx, hb, hml, hown, hts, hK, hA, hSt, hmn, hnL, hRI, hRV⟩, rfl⟩ := hG
  intro ad H locs cells slots ls hpt
  obtain ⟨⟨hP, hD, hS⟩, ⟨hM, hl, hvr, hvs⟩, ⟨⟨hn0, had0⟩, hsA⟩, hcn, hsn, hcl, hsl, hlc, hls⟩ := hpt
  have he := ws_get (cI := cI) (cC := cC) (cS := cS) (ad := ad) hsh
  rw [cell_rf] at he
  have hev := ws_get (cI := cI) (cC := cC) (cS := cS) (ad := ad) hv
  rw [cell_ob (by decide)] at hev
  have hjr : inR j := (hvs _ (List.mem_cons_of_mem _ List.mem_cons_self))
  have hlq : q < M.1.length := (List.getElem?_eq_some_iff.mp hsh).1
  have hlv : v < M.1.length := (List.getElem?_eq_some_iff.mp hv).1
  have hup := ws_upd (cI := cI) (cC := cC) (cS := cS) (ad := ad) (M' := sr M q j.toNat (some v)) hsh rfl cell_sr
  rw [cell_rf, ← up_sr] at hup
  refine va_astq (r := (RX4, TX4, 3)) hx hb hK hP hD hS q 2 v 4 he rfl hev rfl (zI_in hjr h0 h1) hdg (fun H1 locs1 hP1 hD1 hS1 => ?_)
  rw [zI_cl hjr, hup] at hP1 hD1
  exact k ad H1 locs1 cells slots ls ⟨⟨hP1, hD1, hS1⟩, ⟨MOK_sr hM hlq (fun j h => by cases h; exact hlv), hl, hvr, (fun v hv => hvs v (List.mem_cons_of_mem _ (List.mem_cons_of_mem _ (List.mem_cons_of_mem _ hv))))⟩, ⟨⟨hn0, had0⟩, hsA⟩, hcn, hsn, hcl, hsl, hlc, hls⟩
theorem G_alen (hG : Mach own cc nL mn R ret nt L xs Rt G) {q n : Nat} (hsh : M.1[q]? = some (20, n)) (hnr : n < 2147483648) (hdg : decode cc pc = .ok (.arraylength, 1)) (k : G (pc + 1) (.inl (n : Int) :: sv) ρ M) : G pc (.inr (some q) :: sv) ρ M := by
  obtain ⟨p, l, e, s, m, args, below, meth, c, dC, dI, cI, cC, cS, sA, A, n0, S0, ad0, Q, ⟨hx, hb, hml, hown, hts, hK, hA, hSt, hmn, hnL, hRI, hRV⟩, rfl⟩ := hG
  intro ad H locs cells slots ls hpt
  obtain ⟨⟨hP, hD, hS⟩, ⟨hM, hl, hvr, hvs⟩, ⟨⟨hn0, had0⟩, hsA⟩, hcn, hsn, hcl, hsl, hlc, hls⟩ := hpt
  have he := ws_get (cI := cI) (cC := cC) (cS := cS) (ad := ad) hsh
  rw [cell_in] at he
  exact va_alen (v := zI n) hx hb hK hP q 0 he (show (tysOf cI cC cS)[0]? = some (cI, .int) from rfl) (zI_nat n).symm hdg (k ad H locs cells slots ls ⟨⟨hP, hD, hS⟩, ⟨hM, hl, hvr, (List.forall_mem_cons.mpr ⟨⟨by omega, by omega⟩, (fun v hv => hvs v (List.mem_cons_of_mem _ hv))⟩)⟩, ⟨⟨hn0, had0⟩, hsA⟩, hcn, hsn, hcl, hsl, hlc, hls⟩)
theorem G_tld (hG : Mach own cc nL mn R ret nt L xs Rt G) {t : Nat} {j : Int} (ht : t < nt) (h0 : 0 ≤ j) (h1 : j < (tLn L t : Int)) (hdg : decode cc pc = .ok (.iaload, 1)) (k : G (pc + 1) (.inl (tVl xs t j.toNat) :: sv) ρ M) : G pc (.inl j :: .inr (some (1000000 + t)) :: sv) ρ M := by
  obtain ⟨p, l, e, s, m, args, below, meth, c, dC, dI, cI, cC, cS, sA, A, n0, S0, ad0, Q, ⟨hx, hb, hml, hown, hts, hK, hA, hSt, hmn, hnL, hRI, hRV⟩, rfl⟩ := hG
  intro ad H locs cells slots ls hpt
  obtain ⟨⟨hP, hD, hS⟩, ⟨hM, hl, hvr, hvs⟩, ⟨⟨hn0, had0⟩, hsA⟩, hcn, hsn, hcl, hsl, hlc, hls⟩ := hpt
  obtain ⟨hX, hbl, hbA⟩ := hSt.2.1 t ht
  have hjr : inR j := (hvs _ List.mem_cons_self)
  rw [List.map_cons, List.map_cons, show cv ad (.inr (some (1000000 + t))) = .ref (sA t) by rw [← hsA]; rfl]
  refine va_sld hx hb hX hbl hbA hS (zI_in hjr h0 h1) hdg ?_
  rw [zI_cl hjr]
  exact k ad H locs cells slots ls ⟨⟨hP, hD, hS⟩, ⟨hM, hl, hvr, (List.forall_mem_cons.mpr ⟨(hSt.2.2.1 t j.toNat), (fun v hv => hvs v (List.mem_cons_of_mem _ (List.mem_cons_of_mem _ hv)))⟩)⟩, ⟨⟨hn0, had0⟩, hsA⟩, hcn, hsn, hcl, hsl, hlc, hls⟩
theorem G_tlen (hG : Mach own cc nL mn R ret nt L xs Rt G) {t : Nat} (ht : t < nt) (hnr : tLn L t < 2147483648) (hdg : decode cc pc = .ok (.arraylength, 1)) (k : G (pc + 1) (.inl (tLn L t : Int) :: sv) ρ M) : G pc (.inr (some (1000000 + t)) :: sv) ρ M := by
  obtain ⟨p, l, e, s, m, args, below, meth, c, dC, dI, cI, cC, cS, sA, A, n0, S0, ad0, Q, ⟨hx, hb, hml, hown, hts, hK, hA, hSt, hmn, hnL, hRI, hRV⟩, rfl⟩ := hG
  intro ad H locs cells slots ls hpt
  obtain ⟨⟨hP, hD, hS⟩, ⟨hM, hl, hvr, hvs⟩, ⟨⟨hn0, had0⟩, hsA⟩, hcn, hsn, hcl, hsl, hlc, hls⟩ := hpt
  obtain ⟨hX, hbl, hbA⟩ := hSt.2.1 t ht
  rw [List.map_cons, show cv ad (.inr (some (1000000 + t))) = .ref (sA t) by rw [← hsA]; rfl]
  refine va_slen hx hb hX hbl hbA hS hdg ?_
  rw [show Int32.ofNat (tLn L t) = zI (tLn L t) from (zI_nat _).symm]
  exact k ad H locs cells slots ls ⟨⟨hP, hD, hS⟩, ⟨hM, hl, hvr, (List.forall_mem_cons.mpr ⟨⟨by omega, by omega⟩, (fun v hv => hvs v (List.mem_cons_of_mem _ hv))⟩)⟩, ⟨⟨hn0, had0⟩, hsA⟩, hcn, hsn, hcl, hsl, hlc, hls⟩
theorem G_gets (hG : Mach own cc nL mn R ret nt L xs Rt G) {t idx : Nat} (ht : t < 3) (hlk : Cond.fieldLink own idx "SungSlides" (stN t) "[I" ∈ gtb) (hdg : decode cc pc = .ok (.getstatic idx, 3)) (k : G (pc + 3) (.inr (some (1000000 + t)) :: sv) ρ M) : G pc sv ρ M := by
  obtain ⟨p, l, e, s, m, args, below, meth, c, dC, dI, cI, cC, cS, sA, A, n0, S0, ad0, Q, ⟨hx, hb, hml, hown, hts, hK, hA, hSt, hmn, hnL, hRI, hRV⟩, rfl⟩ := hG
  intro ad H locs cells slots ls hpt
  obtain ⟨⟨hP, hD, hS⟩, ⟨hM, hl, hvr, hvs⟩, ⟨⟨hn0, had0⟩, hsA⟩, hcn, hsn, hcl, hsl, hlc, hls⟩ := hpt
  have h1 := k ad H locs cells slots ls ⟨⟨hP, hD, hS⟩, ⟨hM, hl, hvr, (List.forall_mem_cons.mpr ⟨(Or.inr ⟨by omega, by omega⟩), hvs⟩)⟩, ⟨⟨hn0, had0⟩, hsA⟩, hcn, hsn, hcl, hsl, hlc, hls⟩
  rw [List.map_cons, show cv ad (.inr (some (1000000 + t))) = .ref (sA t) by rw [← hsA]; rfl] at h1
  exact va_gets hx hb (hSt.2.2.2.1 t ht) hS hown (hts _ hlk) (fun _ h => h) hdg h1
theorem G_getsN (hG : Mach own cc nL mn R ret nt L xs Rt G) {t idx : Nat} {host : String} (ht : t < 3) (hlk : Cond.fieldLinkNest own idx "SungSlides" (stN t) "[I" host ∈ nestW) (hdg : decode cc pc = .ok (.getstatic idx, 3)) (k : G (pc + 3) (.inr (some (1000000 + t)) :: sv) ρ M) : G pc sv ρ M := by
  obtain ⟨p, l, e, s, m, args, below, meth, c, dC, dI, cI, cC, cS, sA, A, n0, S0, ad0, Q, ⟨hx, hb, hml, hown, hts, hK, hA, hSt, hmn, hnL, hRI, hRV⟩, rfl⟩ := hG
  intro ad H locs cells slots ls hpt
  obtain ⟨⟨hP, hD, hS⟩, ⟨hM, hl, hvr, hvs⟩, ⟨⟨hn0, had0⟩, hsA⟩, hcn, hsn, hcl, hsl, hlc, hls⟩ := hpt
  have h1 := k ad H locs cells slots ls ⟨⟨hP, hD, hS⟩, ⟨hM, hl, hvr, (List.forall_mem_cons.mpr ⟨(Or.inr ⟨by omega, by omega⟩), hvs⟩)⟩, ⟨⟨hn0, had0⟩, hsA⟩, hcn, hsn, hcl, hsl, hlc, hls⟩
  rw [List.map_cons, show cv ad (.inr (some (1000000 + t))) = .ref (sA t) by rw [← hsA]; rfl] at h1
  exact va_getsN hx hb (hSt.2.2.2.1 t ht) hS hown (va_Nw.use rfl (hSt.2.2.2.2.2 _ hlk)) (fun _ h => h) hdg h1
theorem G_ret (hG : Mach own cc nL mn R ret nt L xs Rt G) {rt : FieldType} {x : Int} (hrt : ret = some rt) (hn : narrow rt (.int (zI x)) = .int (zI x)) (hdg : decode cc pc = .ok (.ireturn, 1)) (h : Rt x M) : G pc [.inl x] ρ M := by
  obtain ⟨p, l, e, s, m, args, below, meth, c, dC, dI, cI, cC, cS, sA, A, n0, S0, ad0, Q, ⟨hx, hb, hml, hown, hts, hK, hA, hSt, hmn, hnL, hRI, hRV⟩, rfl⟩ := hG
  intro ad H locs cells slots ls hpt
  obtain ⟨⟨hP, hD, hS⟩, ⟨hM, hl, hvr, hvs⟩, ⟨⟨hn0, had0⟩, hsA⟩, hcn, hsn, hcl, hsl, hlc, hls⟩ := hpt
  exact hRI rt pc x ρ M hrt hn hdg h ad H locs cells slots ls ⟨⟨hP, hD, hS⟩, ⟨hM, hl, hvr, hvs⟩, ⟨⟨hn0, had0⟩, hsA⟩, hcn, hsn, hcl, hsl, hlc, hls⟩
theorem G_retV (hG : Mach own cc nL mn R ret nt L xs Rt G) (hrt : ret = none) (hdg : decode cc pc = .ok (.return_, 1)) (h : Rt 0 M) : G pc [] ρ M := by
  obtain ⟨p, l, e, s, m, args, below, meth, c, dC, dI, cI, cC, cS, sA, A, n0, S0, ad0, Q, ⟨hx, hb, hml, hown, hts, hK, hA, hSt, hmn, hnL, hRI, hRV⟩, rfl⟩ := hG
  intro ad H locs cells slots ls hpt
  obtain ⟨⟨hP, hD, hS⟩, ⟨hM, hl, hvr, hvs⟩, ⟨⟨hn0, had0⟩, hsA⟩, hcn, hsn, hcl, hsl, hlc, hls⟩ := hpt
  exact hRV pc ρ M hrt hdg h ad H locs cells slots ls ⟨⟨hP, hD, hS⟩, ⟨hM, hl, hvr, hvs⟩, ⟨⟨hn0, had0⟩, hsA⟩, hcn, hsn, hcl, hsl, hlc, hls⟩
end RULES
end
section
/-! ===== statements, expressions, methods: their meaning ===== -/
abbrev IE : Type := (Int → Mm → Prop) → En → Mm → Prop
abbrev RE : Type := (Option Nat → Mm → Prop) → En → Mm → Prop
abbrev CE : Type := (Mm → Prop) → (Mm → Prop) → En → Mm → Prop
abbrev ST : Type := (En → Mm → Prop) → (Int → Mm → Prop) → En → Mm → Prop
abbrev AE : Type := (List Vv → Mm → Prop) → En → Mm → Prop
abbrev Mt : Type := List Vv → (Int → Mm → Prop) → Mm → Prop
def PcM (dC : Nat → ClassId) (dI : Nat → Nat → Nat) (cI cC cS : ClassId) (sA : Nat → Nat) (av : List Vv) (M : Mm) (ad : Nat → Nat) (sz : Nat) : Array Value → State → Prop :=
  va_Pc (av.map (cv ad)) (fun U => U.heap.size = sz ∧ va_P (dC, dI) vwCl (wsOf cI cC cS ad M) U.heap ∧ va_K (dC, dI) vwCl (tysOf cI cC cS) U ∧ va_D (fun _ => True) (wsOf cI cC cS ad M) ∧ StOK 3 0 (fun _ => 0) sA (va_A (wsOf cI cC cS ad M) sz) U U.heap)
def PuM (Rt : Int → Mm → Prop) (rm : Room) (sA : Nat → Nat) (M : Mm) (ad : Nat → Nat) (r : Int) (u : Mm × (Nat → Nat)) : Prop :=
  Rt r u.1 ∧ inR r ∧ MOK u.1 ∧ u.1.1.length = M.1.length + rm.cells ∧ ssum u.1.1 = ssum M.1 + rm.slots ∧ (∀ k, k < M.1.length → u.2 k = ad k) ∧ ∀ t, u.2 (1000000 + t) = sA t
def BM (dC : Nat → ClassId) (dI : Nat → Nat → Nat) (cI cC cS : ClassId) (A : Nat → Prop) (u : Mm × (Nat → Nat)) (t : State) : Prop :=
  va_P (dC, dI) vwCl (wsOf cI cC cS u.2 u.1) t.heap ∧ va_K (dC, dI) vwCl (tysOf cI cC cS) t ∧ va_D A (wsOf cI cC cS u.2 u.1)
/-- the contract of a method with an int for an answer -/
def MOkI (y : MethodName) (cy : ByteArray) (maxL : Nat) (rt : FieldType) (rm : Room) (Me : Mt) : Prop :=
  ∀ (l : Launch) (dC : Nat → ClassId) (dI : Nat → Nat → Nat) (cI cC cS : ClassId) (sA : Nat → Nat) (av : List Vv) (M : Mm) (ad : Nat → Nat) (sz : Nat) (Rt : Int → Mm → Prop),
    MOK M → (∀ v ∈ av, vok M v) → (∀ t, ad (1000000 + t) = sA t) → Me av Rt M →
    Met l y (.code y cy maxL (some rt) :: gtb) rm (PcM dC dI cI cC cS sA av M ad sz) (va_Qi (fun r32 u => ∃ r : Int, r32 = zI r ∧ PuM Rt rm sA M ad r u) (BM dC dI cI cC cS (va_A (wsOf cI cC cS ad M) sz)) (va_A (wsOf cI cC cS ad M) sz)) rm.cells rm.slots (va_A (wsOf cI cC cS ad M) sz)
/-- .. with none -/
def MOkV (y : MethodName) (cy : ByteArray) (maxL : Nat) (rm : Room) (Me : Mt) : Prop :=
  ∀ (l : Launch) (dC : Nat → ClassId) (dI : Nat → Nat → Nat) (cI cC cS : ClassId) (sA : Nat → Nat) (av : List Vv) (M : Mm) (ad : Nat → Nat) (sz : Nat) (Rt : Int → Mm → Prop),
    MOK M → (∀ v ∈ av, vok M v) → (∀ t, ad (1000000 + t) = sA t) → Me av Rt M →
    Met l y (.code y cy maxL none :: gtb) rm (PcM dC dI cI cC cS sA av M ad sz) (va_Qv (fun u => PuM Rt rm sA M ad 0 u) (BM dC dI cI cC cS (va_A (wsOf cI cC cS ad M) sz)) (va_A (wsOf cI cC cS ad M) sz)) rm.cells rm.slots (va_A (wsOf cI cC cS ad M) sz)
theorem StOK.to {nt L : Nat} {xs : Nat → Int} {sA : Nat → Nat} {A B : Nat → Prop} {s U : State} {H0 H : Heap} (h : StOK nt L xs sA A s H0) (hW : s.WarmedH U.vm) (hk : ∀ a : Nat, a < H0.size → ¬ A a → H[a]? = H0[a]?) (hz : H0.size ≤ H.size) (hAB : ∀ q, B q → A q) : StOK 3 0 (fun _ => 0) sA B U H := by
  obtain ⟨h1, h2, h3, h4, h5, h6⟩ := h
  have hal := hW.alike
  refine ⟨Nat.le_refl 3, fun t ht => ?_, fun t j => ?_, fun t ht => ?_, h5.moved hal, fun w hw => nest_mv (List.mem_filter.mp hw).2 hW (h6 w hw)⟩
  · obtain ⟨q1, q2, q3⟩ := h2 t (by omega)
    refine ⟨?_, by omega, fun h => q3 (hAB _ h)⟩
    have q4 := (q1.kept (hk (sA t) q2 q3)).moved hal
    simp only [tLn, tVl, ht, if_true] at q4 ⊢
    exact q4
  · by_cases ht : t < 3
    · have := h3 t j
      simp only [tVl, ht, if_true] at this ⊢
      exact this
    · simp only [tVl, ht, if_false]
      exact inR_0
  · exact (((h4 t ht).kept hk).narrow hAB).moved hal
theorem blind (dC : Nat → ClassId) (dI : Nat → Nat → Nat) (cI cC cS : ClassId) (sA : Nat → Nat) (av : List Vv) (M : Mm) (ad : Nat → Nat) (sz : Nat) : FrameBlind (PcM dC dI cI cC cS sA av M ad sz) := fun a U g mk q => by
  obtain ⟨q0, q1, qP, qK, qD, q2, q3, q4, q5, q6, q7⟩ := q
  exact ⟨q0, q1, qP, va_K.moved (u := U) (U := U.calling g mk a) (Vm.Alike.refl U.vm) qK, qD, q2, fun t ht => ⟨(q3 t ht).1.moved (Vm.Alike.refl U.vm), (q3 t ht).2⟩, q4, fun t ht => (q5 t ht).moved (Vm.Alike.refl U.vm), q6.moved (u := U) (U := U.calling g mk a) (Vm.Alike.refl U.vm), fun w hw => va_Nw.same (nest_on (List.mem_filter.mp hw).2) (u := U) (U := U.calling g mk a) rfl (q7 w hw)⟩
theorem cv_ext {M : Mm} {ad ad' : Nat → Nat} {sA : Nat → Nat} (h1 : ∀ k, k < M.1.length → ad' k = ad k) (h2 : ∀ t, ad (1000000 + t) = sA t) (h3 : ∀ t, ad' (1000000 + t) = sA t) {v : Vv} (hv : vok M v) : cv ad' v = cv ad v := by
  rcases v with z | _ | k
  · rfl
  · rfl
  · rcases hv with h | h
    · show Value.ref (ad' k) = Value.ref (ad k)
      rw [h1 k h]
    · obtain ⟨t, rfl⟩ := Nat.exists_eq_add_of_le h.1
      show Value.ref (ad' _) = Value.ref (ad _)
      rw [h2, h3]
theorem vok_mono {M M' : Mm} (h : M.1.length ≤ M'.1.length) {v : Vv} (hv : vok M v) : vok M' v := by
  rcases v with z | _ | k
  · exact hv
  · trivial
  · rcases hv with q | q
    · exact Or.inl (Nat.lt_of_lt_of_le q h)
    · exact Or.inr q
theorem cat_sum (ad : Nat → Nat) (sv : List Vv) : ((sv.map (cv ad)).map fun v => v.category).sum = sv.length := by
  induction sv with
  | nil => rfl
  | cons v t ih => simp only [List.map_cons, List.sum_cons, List.length_cons, cv_cat, ih]; omega
/-! ===== what the tables say of a call ===== -/
def yok (y : MethodName) (n : Nat) : Prop := y.cls ≠ "java/lang/invoke/MethodHandle" ∧ y.cls ≠ "java/lang/invoke/VarHandle" ∧ (parseMethodDescriptor y.desc).map (fun d => d.parameters.length) = some n
def CkV (own : String) (idx : Nat) (y : MethodName) (cy : ByteArray) (maxL : Nat) (ret : Option FieldType) (n : Nat) : Prop := (∀ w ∈ ([.methodLink own idx y, .instanceMethod y, .selects y.cls y y, .initialized y.cls, .code y cy maxL ret] : List Cond), w ∈ gtb) ∧ yok y n
def CkS (own : String) (idx : Nat) (y : MethodName) (cy : ByteArray) (maxL : Nat) (ret : Option FieldType) (n : Nat) : Prop := (∀ w ∈ ([.methodLink own idx y, .static y, .initialized own, .code y cy maxL ret] : List Cond), w ∈ gtb) ∧ y.cls = own ∧ yok y n
def CkN (own : String) (idx : Nat) (host : String) (y : MethodName) (cy : ByteArray) (maxL : Nat) (ret : Option FieldType) (n : Nat) : Prop := (∀ w ∈ ([.static y, .initialized y.cls, .code y cy maxL ret] : List Cond), w ∈ gtb) ∧ yok y n ∧ Cond.methodLinkNest own idx y host ∈ nestW
def CkI (own : String) (idx : Nat) (y : MethodName) (cy : ByteArray) (maxL : Nat) (n : Nat) : Prop := (∀ w ∈ ([.methodLink own idx y, .instanceMethod y, .initialized y.cls, .code y cy maxL none] : List Cond), w ∈ gtb) ∧ y.name = "<init>" ∧ yok y n
def CkIN (own : String) (idx : Nat) (host : String) (y : MethodName) (cy : ByteArray) (maxL : Nat) (n : Nat) : Prop := (∀ w ∈ ([.instanceMethod y, .initialized y.cls, .code y cy maxL none] : List Cond), w ∈ gtb) ∧ y.name = "<init>" ∧ yok y n ∧ Cond.methodLinkNest own idx y host ∈ nestW
theorem code_in {y : MethodName} {cy : ByteArray} {maxL : Nat} {ret : Option FieldType} (h : Cond.code y cy maxL ret ∈ gtb) : ∀ w ∈ (Cond.code y cy maxL ret :: gtb), w ∈ gtb := List.forall_mem_cons.mpr ⟨h, fun _ h => h⟩
def Rok (rm R : Room) (maxL : Nat) : Prop := rm.frames + 1 ≤ R.frames ∧ 8 + (maxL + 11) + rm.locals ≤ R.locals
section RULES
variable {own : String} {cc : ByteArray} {nL : Nat} {mn : String} {R : Room} {ret : Option FieldType} {nt L : Nat} {xs : Nat → Int} {Rt : Int → Mm → Prop} {G : Gt} {pc : Nat} {sv : List Vv} {ρ : En} {M : Mm}
theorem G_callVI (hG : Mach own cc nL mn R ret nt L xs Rt G) {idx n maxL : Nat} {y : MethodName} {cy : ByteArray} {rt : FieldType} {rm : Room} {Me : Mt} {av : List Vv} (hM : MOkI y cy maxL rt rm Me) (hR : Rok rm R maxL) (hlen0 : av.length = n + 1) (hsv : sv.length ≤ 8) (hdg : decode cc pc = .ok (.invokevirtual idx, 3)) (hk : CkV own idx y cy maxL (some rt) n) (h0 : rm.cells = 0 ∧ rm.slots = 0) {q ci w : Nat} {T : u_T} {N : Nat} (hci : ci < 8) (hcl0 : vwCl[ci]? = some (y.cls, T, N)) (hq0 : av[0]? = some (.inr (some q))) (hsh : M.1[q]? = some (ci, w)) {K : Int → Mm → Prop} (hMe : Me av K M) (k : ∀ r M2, K r M2 → G (pc + 3) (.inl r :: sv) ρ M2) : G pc (av.reverse ++ sv) ρ M := by
  obtain ⟨p, l, e, s, m, args, below, meth, c, dC, dI, cI, cC, cS, sA, A, n0, S0, ad0, Q, ⟨hx, hb, hml, hown, hts, hK, hA, hSt, hmn, hnL, hRI, hRV⟩, rfl⟩ := hG
  intro ad H locs cells slots ls hpt
  obtain ⟨⟨hP, hD, hS⟩, ⟨hM0, hl, hvr, hvs⟩, ⟨⟨hn0, had0⟩, hsA⟩, hcn, hsn, hcl, hsl, hlc, hls⟩ := hpt
  have hFc : ∀ q, va_A (wsOf cI cC cS ad M) H.size q → A q := fun q h => by
    rcases h with ⟨k, e0, h⟩ | h
    · exact hD.2 k (q, e0) h
    · exact hA q (Nat.le_trans hS.1 h)
  have hva : ∀ v ∈ av, vok M v := fun v hv => hvs v (List.mem_append_left _ (List.mem_reverse.mpr hv))
  have hvt : ∀ v ∈ sv, vok M v := fun v hv => hvs v (List.mem_append_right _ hv)
  have hpre : ∀ U : State, U.heap = H → s.WarmedH U.vm → PcM dC dI cI cC cS sA av M ad H.size ((av.map (cv ad)).toArray) U := fun U hU hW =>
    ⟨rfl, by rw [hU], by rw [hU]; exact hP, va_K.moved hW.alike hK, hD.weaken (fun _ _ _ _ => trivial), by rw [hU]; exact hSt.to hW (fun a h1 h2 => hS.2.1 a h1 h2) hS.1 hFc⟩
  have hMet := hM l dC dI cI cC cS sA av M ad H.size _ hM0 hva hsA hMe
  have he := ws_get (cI := cI) (cC := cC) (cS := cS) (ad := ad) hsh
  rw [cell_ob hci] at he
  obtain ⟨v0, as, rfl⟩ : ∃ v0 as, av = v0 :: as := by
    cases av with
    | nil => simp at hlen0
    | cons v0 as => exact ⟨v0, as, rfl⟩
  obtain rfl : v0 = .inr (some q) := by simpa using hq0
  rw [show (((Sum.inr (some q) :: as).reverse ++ sv).map (cv ad)) = ((as.map (cv ad)).reverse ++ .ref (ad q) :: sv.map (cv ad)) by simp [cv]]
  refine va_calli (va_runV (As := as.map (cv ad)) (rest := sv.map (cv ad)) ⟨hx, hb, hml, hown, hts⟩ hMet (cwV n hts (good_sub (fun w hw => by
    rcases List.mem_append.mp hw with h | h
    · exact hk.1 w (List.mem_append_left [Cond.code y cy maxL (some rt)] h)
    · exact code_in (hk.1 _ (by simp)) w h)) rfl rfl rfl ⟨rfl, hk.2⟩ hR) ⟨blind _ _ _ _ _ _ _ _ _ _, va_recv hK hP hcl0 he, fun U hU hW => hpre U hU hW⟩ rfl (by simpa using hlen0) hl.1 rfl (lv_room (by rw [cat_sum]; exact hsv)) hdg ⟨by rw [h0.1]; omega, by rw [h0.2]; omega⟩) hS (fun q _ h => hFc q h) hFc (fun r32 u t H1 locs1 ht hvm hpost hB hz1 hk1 hS1 => ?_)
  obtain ⟨r, hr, hRt, hrr, hMOK, hlen, hssum, had, hsA2⟩ := hpost
  obtain ⟨hP1, hK1, hD1⟩ := hB
  rw [ht] at hP1
  subst hr
  have hkk := k r u.1 hRt u.2 H1 locs1 (cells + rm.cells) (slots + rm.slots) ls ⟨⟨hP1, hD1.weaken (fun _ _ _ h => hFc _ h), hS1⟩, ⟨hMOK, env_ext hl (fun i hi => cv_ext had hsA hsA2 (hvr i (by omega))), fun i hi => vok_mono (by omega) (hvr i hi), List.forall_mem_cons.mpr ⟨hrr, fun v hv => vok_mono (by omega) (hvt v hv)⟩⟩, ⟨⟨by omega, fun k hk => (had k (by omega)).trans (had0 k hk)⟩, hsA2⟩, by omega, by omega, by omega, by omega, hlc, hls⟩
  have hsvm : sv.map (cv u.2) = sv.map (cv ad) := List.map_congr_left (fun v hv => cv_ext had hsA hsA2 (hvt v hv))
  rw [List.map_cons, hsvm] at hkk
  exact hkk
theorem G_callSI (hG : Mach own cc nL mn R ret nt L xs Rt G) {idx n maxL : Nat} {y : MethodName} {cy : ByteArray} {rt : FieldType} {rm : Room} {Me : Mt} {av : List Vv} (hM : MOkI y cy maxL rt rm Me) (hR : Rok rm R maxL) (hlen0 : av.length = n) (hsv : sv.length ≤ 8) (hdg : decode cc pc = .ok (.invokestatic idx, 3)) (hk : CkS own idx y cy maxL (some rt) n) (h0 : rm.cells = 0 ∧ rm.slots = 0) {K : Int → Mm → Prop} (hMe : Me av K M) (k : ∀ r M2, K r M2 → G (pc + 3) (.inl r :: sv) ρ M2) : G pc (av.reverse ++ sv) ρ M := by
  obtain ⟨p, l, e, s, m, args, below, meth, c, dC, dI, cI, cC, cS, sA, A, n0, S0, ad0, Q, ⟨hx, hb, hml, hown, hts, hK, hA, hSt, hmn, hnL, hRI, hRV⟩, rfl⟩ := hG
  intro ad H locs cells slots ls hpt
  obtain ⟨⟨hP, hD, hS⟩, ⟨hM0, hl, hvr, hvs⟩, ⟨⟨hn0, had0⟩, hsA⟩, hcn, hsn, hcl, hsl, hlc, hls⟩ := hpt
  have hFc : ∀ q, va_A (wsOf cI cC cS ad M) H.size q → A q := fun q h => by
    rcases h with ⟨k, e0, h⟩ | h
    · exact hD.2 k (q, e0) h
    · exact hA q (Nat.le_trans hS.1 h)
  have hva : ∀ v ∈ av, vok M v := fun v hv => hvs v (List.mem_append_left _ (List.mem_reverse.mpr hv))
  have hvt : ∀ v ∈ sv, vok M v := fun v hv => hvs v (List.mem_append_right _ hv)
  have hpre : ∀ U : State, U.heap = H → s.WarmedH U.vm → PcM dC dI cI cC cS sA av M ad H.size ((av.map (cv ad)).toArray) U := fun U hU hW =>
    ⟨rfl, by rw [hU], by rw [hU]; exact hP, va_K.moved hW.alike hK, hD.weaken (fun _ _ _ _ => trivial), by rw [hU]; exact hSt.to hW (fun a h1 h2 => hS.2.1 a h1 h2) hS.1 hFc⟩
  have hMet := hM l dC dI cI cC cS sA av M ad H.size _ hM0 hva hsA hMe
  rw [show ((av.reverse ++ sv).map (cv ad)) = ((av.map (cv ad)).reverse ++ sv.map (cv ad)) by simp]
  refine va_calli (va_runS (As := av.map (cv ad)) (rest := sv.map (cv ad)) ⟨hx, hb, hml, hown, hts⟩ hMet (cwS n hts (good_sub (fun w hw => by
    rcases List.mem_append.mp hw with h | h
    · exact hk.1 w (List.mem_append_left [Cond.code y cy maxL (some rt)] h)
    · exact code_in (hk.1 _ (by simp)) w h)) rfl rfl rfl hk.2 hR) ⟨blind _ _ _ _ _ _ _ _ _ _, fun U hU hW => hpre U hU hW⟩ rfl (by simpa using hlen0) hl.1 rfl (lv_room (by rw [cat_sum]; exact hsv)) hdg ⟨by rw [h0.1]; omega, by rw [h0.2]; omega⟩) hS (fun q _ h => hFc q h) hFc (fun r32 u t H1 locs1 ht hvm hpost hB hz1 hk1 hS1 => ?_)
  obtain ⟨r, hr, hRt, hrr, hMOK, hlen, hssum, had, hsA2⟩ := hpost
  obtain ⟨hP1, hK1, hD1⟩ := hB
  rw [ht] at hP1
  subst hr
  have hkk := k r u.1 hRt u.2 H1 locs1 (cells + rm.cells) (slots + rm.slots) ls ⟨⟨hP1, hD1.weaken (fun _ _ _ h => hFc _ h), hS1⟩, ⟨hMOK, env_ext hl (fun i hi => cv_ext had hsA hsA2 (hvr i (by omega))), fun i hi => vok_mono (by omega) (hvr i hi), List.forall_mem_cons.mpr ⟨hrr, fun v hv => vok_mono (by omega) (hvt v hv)⟩⟩, ⟨⟨by omega, fun k hk => (had k (by omega)).trans (had0 k hk)⟩, hsA2⟩, by omega, by omega, by omega, by omega, hlc, hls⟩
  have hsvm : sv.map (cv u.2) = sv.map (cv ad) := List.map_congr_left (fun v hv => cv_ext had hsA hsA2 (hvt v hv))
  rw [List.map_cons, hsvm] at hkk
  exact hkk
theorem G_callNI (hG : Mach own cc nL mn R ret nt L xs Rt G) {idx n maxL : Nat} {y : MethodName} {cy : ByteArray} {rt : FieldType} {rm : Room} {Me : Mt} {av : List Vv} (hM : MOkI y cy maxL rt rm Me) (hR : Rok rm R maxL) (hlen0 : av.length = n) (hsv : sv.length ≤ 8) (hdg : decode cc pc = .ok (.invokestatic idx, 3)) {host : String} (hk : CkN own idx host y cy maxL (some rt) n) (h0 : rm.cells = 0 ∧ rm.slots = 0) {K : Int → Mm → Prop} (hMe : Me av K M) (k : ∀ r M2, K r M2 → G (pc + 3) (.inl r :: sv) ρ M2) : G pc (av.reverse ++ sv) ρ M := by
  obtain ⟨p, l, e, s, m, args, below, meth, c, dC, dI, cI, cC, cS, sA, A, n0, S0, ad0, Q, ⟨hx, hb, hml, hown, hts, hK, hA, hSt, hmn, hnL, hRI, hRV⟩, rfl⟩ := hG
  intro ad H locs cells slots ls hpt
  obtain ⟨⟨hP, hD, hS⟩, ⟨hM0, hl, hvr, hvs⟩, ⟨⟨hn0, had0⟩, hsA⟩, hcn, hsn, hcl, hsl, hlc, hls⟩ := hpt
  have hFc : ∀ q, va_A (wsOf cI cC cS ad M) H.size q → A q := fun q h => by
    rcases h with ⟨k, e0, h⟩ | h
    · exact hD.2 k (q, e0) h
    · exact hA q (Nat.le_trans hS.1 h)
  have hva : ∀ v ∈ av, vok M v := fun v hv => hvs v (List.mem_append_left _ (List.mem_reverse.mpr hv))
  have hvt : ∀ v ∈ sv, vok M v := fun v hv => hvs v (List.mem_append_right _ hv)
  have hpre : ∀ U : State, U.heap = H → s.WarmedH U.vm → PcM dC dI cI cC cS sA av M ad H.size ((av.map (cv ad)).toArray) U := fun U hU hW =>
    ⟨rfl, by rw [hU], by rw [hU]; exact hP, va_K.moved hW.alike hK, hD.weaken (fun _ _ _ _ => trivial), by rw [hU]; exact hSt.to hW (fun a h1 h2 => hS.2.1 a h1 h2) hS.1 hFc⟩
  have hMet := hM l dC dI cI cC cS sA av M ad H.size _ hM0 hva hsA hMe
  rw [show ((av.reverse ++ sv).map (cv ad)) = ((av.map (cv ad)).reverse ++ sv.map (cv ad)) by simp]
  refine va_calli (va_runSN (As := av.map (cv ad)) (rest := sv.map (cv ad)) ⟨hx, hb, hml, hown, hts⟩ hMet ⟨va_cnB (host := host) n hts (good_sub (code_in (hk.1 _ (by simp)))) rfl rfl rfl (hSt.2.2.2.2.2 _ hk.2.2) (hts _ (hk.1 _ (by simp))) hk.2.1 hR, hts _ (hk.1 _ (by simp)), trivial⟩ ⟨blind _ _ _ _ _ _ _ _ _ _, fun U hU hW => hpre U hU hW⟩ rfl (by simpa using hlen0) hl.1 rfl (lv_room (by rw [cat_sum]; exact hsv)) hdg ⟨by rw [h0.1]; omega, by rw [h0.2]; omega⟩) hS (fun q _ h => hFc q h) hFc (fun r32 u t H1 locs1 ht hvm hpost hB hz1 hk1 hS1 => ?_)
  obtain ⟨r, hr, hRt, hrr, hMOK, hlen, hssum, had, hsA2⟩ := hpost
  obtain ⟨hP1, hK1, hD1⟩ := hB
  rw [ht] at hP1
  subst hr
  have hkk := k r u.1 hRt u.2 H1 locs1 (cells + rm.cells) (slots + rm.slots) ls ⟨⟨hP1, hD1.weaken (fun _ _ _ h => hFc _ h), hS1⟩, ⟨hMOK, env_ext hl (fun i hi => cv_ext had hsA hsA2 (hvr i (by omega))), fun i hi => vok_mono (by omega) (hvr i hi), List.forall_mem_cons.mpr ⟨hrr, fun v hv => vok_mono (by omega) (hvt v hv)⟩⟩, ⟨⟨by omega, fun k hk => (had k (by omega)).trans (had0 k hk)⟩, hsA2⟩, by omega, by omega, by omega, by omega, hlc, hls⟩
  have hsvm : sv.map (cv u.2) = sv.map (cv ad) := List.map_congr_left (fun v hv => cv_ext had hsA hsA2 (hvt v hv))
  rw [List.map_cons, hsvm] at hkk
  exact hkk
theorem G_callVV (hG : Mach own cc nL mn R ret nt L xs Rt G) {idx n maxL : Nat} {y : MethodName} {cy : ByteArray} {rm : Room} {Me : Mt} {av : List Vv} (hM : MOkV y cy maxL rm Me) (hR : Rok rm R maxL) (hlen0 : av.length = n + 1) (hsv : sv.length ≤ 8) (hdg : decode cc pc = .ok (.invokevirtual idx, 3)) (hk : CkV own idx y cy maxL none n) (h0 : rm.cells = 0 ∧ rm.slots = 0) {q ci w : Nat} {T : u_T} {N : Nat} (hci : ci < 8) (hcl0 : vwCl[ci]? = some (y.cls, T, N)) (hq0 : av[0]? = some (.inr (some q))) (hsh : M.1[q]? = some (ci, w)) {K : Int → Mm → Prop} (hMe : Me av K M) (k : ∀ r M2, K r M2 → G (pc + 3) (sv) ρ M2) : G pc (av.reverse ++ sv) ρ M := by
  obtain ⟨p, l, e, s, m, args, below, meth, c, dC, dI, cI, cC, cS, sA, A, n0, S0, ad0, Q, ⟨hx, hb, hml, hown, hts, hK, hA, hSt, hmn, hnL, hRI, hRV⟩, rfl⟩ := hG
  intro ad H locs cells slots ls hpt
  obtain ⟨⟨hP, hD, hS⟩, ⟨hM0, hl, hvr, hvs⟩, ⟨⟨hn0, had0⟩, hsA⟩, hcn, hsn, hcl, hsl, hlc, hls⟩ := hpt
  have hFc : ∀ q, va_A (wsOf cI cC cS ad M) H.size q → A q := fun q h => by
    rcases h with ⟨k, e0, h⟩ | h
    · exact hD.2 k (q, e0) h
    · exact hA q (Nat.le_trans hS.1 h)
  have hva : ∀ v ∈ av, vok M v := fun v hv => hvs v (List.mem_append_left _ (List.mem_reverse.mpr hv))
  have hvt : ∀ v ∈ sv, vok M v := fun v hv => hvs v (List.mem_append_right _ hv)
  have hpre : ∀ U : State, U.heap = H → s.WarmedH U.vm → PcM dC dI cI cC cS sA av M ad H.size ((av.map (cv ad)).toArray) U := fun U hU hW =>
    ⟨rfl, by rw [hU], by rw [hU]; exact hP, va_K.moved hW.alike hK, hD.weaken (fun _ _ _ _ => trivial), by rw [hU]; exact hSt.to hW (fun a h1 h2 => hS.2.1 a h1 h2) hS.1 hFc⟩
  have hMet := hM l dC dI cI cC cS sA av M ad H.size _ hM0 hva hsA hMe
  have he := ws_get (cI := cI) (cC := cC) (cS := cS) (ad := ad) hsh
  rw [cell_ob hci] at he
  obtain ⟨v0, as, rfl⟩ : ∃ v0 as, av = v0 :: as := by
    cases av with
    | nil => simp at hlen0
    | cons v0 as => exact ⟨v0, as, rfl⟩
  obtain rfl : v0 = .inr (some q) := by simpa using hq0
  rw [show (((Sum.inr (some q) :: as).reverse ++ sv).map (cv ad)) = ((as.map (cv ad)).reverse ++ .ref (ad q) :: sv.map (cv ad)) by simp [cv]]
  refine va_callv (va_runV (As := as.map (cv ad)) (rest := sv.map (cv ad)) ⟨hx, hb, hml, hown, hts⟩ hMet (cwV n hts (good_sub (fun w hw => by
    rcases List.mem_append.mp hw with h | h
    · exact hk.1 w (List.mem_append_left [Cond.code y cy maxL none] h)
    · exact code_in (hk.1 _ (by simp)) w h)) rfl rfl rfl ⟨rfl, hk.2⟩ hR) ⟨blind _ _ _ _ _ _ _ _ _ _, va_recv hK hP hcl0 he, fun U hU hW => hpre U hU hW⟩ rfl (by simpa using hlen0) hl.1 rfl (lv_room (by rw [cat_sum]; exact hsv)) hdg ⟨by rw [h0.1]; omega, by rw [h0.2]; omega⟩) hS (fun q _ h => hFc q h) hFc (fun u t H1 locs1 ht hvm hpost hB hz1 hk1 hS1 => ?_)
  obtain ⟨hRt, hrr, hMOK, hlen, hssum, had, hsA2⟩ := hpost
  obtain ⟨hP1, hK1, hD1⟩ := hB
  rw [ht] at hP1
  have hkk := k 0 u.1 hRt u.2 H1 locs1 (cells + rm.cells) (slots + rm.slots) ls ⟨⟨hP1, hD1.weaken (fun _ _ _ h => hFc _ h), hS1⟩, ⟨hMOK, env_ext hl (fun i hi => cv_ext had hsA hsA2 (hvr i (by omega))), fun i hi => vok_mono (by omega) (hvr i hi), (fun v hv => vok_mono (by omega) (hvt v hv))⟩, ⟨⟨by omega, fun k hk => (had k (by omega)).trans (had0 k hk)⟩, hsA2⟩, by omega, by omega, by omega, by omega, hlc, hls⟩
  have hsvm : sv.map (cv u.2) = sv.map (cv ad) := List.map_congr_left (fun v hv => cv_ext had hsA hsA2 (hvt v hv))
  rw [hsvm] at hkk
  exact hkk
theorem G_callSV (hG : Mach own cc nL mn R ret nt L xs Rt G) {idx n maxL : Nat} {y : MethodName} {cy : ByteArray} {rm : Room} {Me : Mt} {av : List Vv} (hM : MOkV y cy maxL rm Me) (hR : Rok rm R maxL) (hlen0 : av.length = n) (hsv : sv.length ≤ 8) (hdg : decode cc pc = .ok (.invokestatic idx, 3)) (hk : CkS own idx y cy maxL none n) (h0 : rm.cells = 0 ∧ rm.slots = 0) {K : Int → Mm → Prop} (hMe : Me av K M) (k : ∀ r M2, K r M2 → G (pc + 3) (sv) ρ M2) : G pc (av.reverse ++ sv) ρ M := by
  obtain ⟨p, l, e, s, m, args, below, meth, c, dC, dI, cI, cC, cS, sA, A, n0, S0, ad0, Q, ⟨hx, hb, hml, hown, hts, hK, hA, hSt, hmn, hnL, hRI, hRV⟩, rfl⟩ := hG
  intro ad H locs cells slots ls hpt
  obtain ⟨⟨hP, hD, hS⟩, ⟨hM0, hl, hvr, hvs⟩, ⟨⟨hn0, had0⟩, hsA⟩, hcn, hsn, hcl, hsl, hlc, hls⟩ := hpt
  have hFc : ∀ q, va_A (wsOf cI cC cS ad M) H.size q → A q := fun q h => by
    rcases h with ⟨k, e0, h⟩ | h
    · exact hD.2 k (q, e0) h
    · exact hA q (Nat.le_trans hS.1 h)
  have hva : ∀ v ∈ av, vok M v := fun v hv => hvs v (List.mem_append_left _ (List.mem_reverse.mpr hv))
  have hvt : ∀ v ∈ sv, vok M v := fun v hv => hvs v (List.mem_append_right _ hv)
  have hpre : ∀ U : State, U.heap = H → s.WarmedH U.vm → PcM dC dI cI cC cS sA av M ad H.size ((av.map (cv ad)).toArray) U := fun U hU hW =>
    ⟨rfl, by rw [hU], by rw [hU]; exact hP, va_K.moved hW.alike hK, hD.weaken (fun _ _ _ _ => trivial), by rw [hU]; exact hSt.to hW (fun a h1 h2 => hS.2.1 a h1 h2) hS.1 hFc⟩
  have hMet := hM l dC dI cI cC cS sA av M ad H.size _ hM0 hva hsA hMe
  rw [show ((av.reverse ++ sv).map (cv ad)) = ((av.map (cv ad)).reverse ++ sv.map (cv ad)) by simp]
  refine va_callv (va_runS (As := av.map (cv ad)) (rest := sv.map (cv ad)) ⟨hx, hb, hml, hown, hts⟩ hMet (cwS n hts (good_sub (fun w hw => by
    rcases List.mem_append.mp hw with h | h
    · exact hk.1 w (List.mem_append_left [Cond.code y cy maxL none] h)
    · exact code_in (hk.1 _ (by simp)) w h)) rfl rfl rfl hk.2 hR) ⟨blind _ _ _ _ _ _ _ _ _ _, fun U hU hW => hpre U hU hW⟩ rfl (by simpa using hlen0) hl.1 rfl (lv_room (by rw [cat_sum]; exact hsv)) hdg ⟨by rw [h0.1]; omega, by rw [h0.2]; omega⟩) hS (fun q _ h => hFc q h) hFc (fun u t H1 locs1 ht hvm hpost hB hz1 hk1 hS1 => ?_)
  obtain ⟨hRt, hrr, hMOK, hlen, hssum, had, hsA2⟩ := hpost
  obtain ⟨hP1, hK1, hD1⟩ := hB
  rw [ht] at hP1
  have hkk := k 0 u.1 hRt u.2 H1 locs1 (cells + rm.cells) (slots + rm.slots) ls ⟨⟨hP1, hD1.weaken (fun _ _ _ h => hFc _ h), hS1⟩, ⟨hMOK, env_ext hl (fun i hi => cv_ext had hsA hsA2 (hvr i (by omega))), fun i hi => vok_mono (by omega) (hvr i hi), (fun v hv => vok_mono (by omega) (hvt v hv))⟩, ⟨⟨by omega, fun k hk => (had k (by omega)).trans (had0 k hk)⟩, hsA2⟩, by omega, by omega, by omega, by omega, hlc, hls⟩
  have hsvm : sv.map (cv u.2) = sv.map (cv ad) := List.map_congr_left (fun v hv => cv_ext had hsA hsA2 (hvt v hv))
  rw [hsvm] at hkk
  exact hkk
theorem G_callI (hG : Mach own cc nL mn R ret nt L xs Rt G) {idx n maxL : Nat} {y : MethodName} {cy : ByteArray} {rm : Room} {Me : Mt} {av : List Vv} (hM : MOkV y cy maxL rm Me) (hR : Rok rm R maxL) (hlen0 : av.length = n + 1) (hsv : sv.length ≤ 8) (hdg : decode cc pc = .ok (.invokespecial idx, 3)) (hk : CkI own idx y cy maxL n) (hcap : M.1.length + rm.cells ≤ limC ρ ∧ ssum M.1 + rm.slots ≤ limS ρ) {q : Nat} (hq0 : av[0]? = some (.inr (some q))) {K : Int → Mm → Prop} (hMe : Me av K M) (k : ∀ r M2, K r M2 → G (pc + 3) (sv) ρ M2) : G pc (av.reverse ++ sv) ρ M := by
  obtain ⟨p, l, e, s, m, args, below, meth, c, dC, dI, cI, cC, cS, sA, A, n0, S0, ad0, Q, ⟨hx, hb, hml, hown, hts, hK, hA, hSt, hmn, hnL, hRI, hRV⟩, rfl⟩ := hG
  intro ad H locs cells slots ls hpt
  obtain ⟨⟨hP, hD, hS⟩, ⟨hM0, hl, hvr, hvs⟩, ⟨⟨hn0, had0⟩, hsA⟩, hcn, hsn, hcl, hsl, hlc, hls⟩ := hpt
  have hFc : ∀ q, va_A (wsOf cI cC cS ad M) H.size q → A q := fun q h => by
    rcases h with ⟨k, e0, h⟩ | h
    · exact hD.2 k (q, e0) h
    · exact hA q (Nat.le_trans hS.1 h)
  have hva : ∀ v ∈ av, vok M v := fun v hv => hvs v (List.mem_append_left _ (List.mem_reverse.mpr hv))
  have hvt : ∀ v ∈ sv, vok M v := fun v hv => hvs v (List.mem_append_right _ hv)
  have hpre : ∀ U : State, U.heap = H → s.WarmedH U.vm → PcM dC dI cI cC cS sA av M ad H.size ((av.map (cv ad)).toArray) U := fun U hU hW =>
    ⟨rfl, by rw [hU], by rw [hU]; exact hP, va_K.moved hW.alike hK, hD.weaken (fun _ _ _ _ => trivial), by rw [hU]; exact hSt.to hW (fun a h1 h2 => hS.2.1 a h1 h2) hS.1 hFc⟩
  have hMet := hM l dC dI cI cC cS sA av M ad H.size _ hM0 hva hsA hMe
  obtain ⟨v0, as, rfl⟩ : ∃ v0 as, av = v0 :: as := by
    cases av with
    | nil => simp at hlen0
    | cons v0 as => exact ⟨v0, as, rfl⟩
  obtain rfl : v0 = .inr (some q) := by simpa using hq0
  rw [show (((Sum.inr (some q) :: as).reverse ++ sv).map (cv ad)) = ((as.map (cv ad)).reverse ++ .ref (ad q) :: sv.map (cv ad)) by simp [cv]]
  refine va_callv (va_runI (As := as.map (cv ad)) (rest := sv.map (cv ad)) ⟨hx, hb, hml, hown, hts⟩ hMet (cwI n hts (good_sub (code_in (hk.1 _ (by simp)))) rfl rfl rfl (hts _ (hk.1 _ (by simp))) (hts _ (hk.1 _ (by simp))) (hts _ (hk.1 _ (by simp))) hk.2.1 hk.2.2 hR) ⟨blind _ _ _ _ _ _ _ _ _ _, fun U hU hW => hpre U hU hW⟩ rfl (by simpa using hlen0) hl.1 rfl (lv_room (by rw [cat_sum]; exact hsv)) hdg ⟨by omega, by omega⟩) hS (fun q _ h => hFc q h) hFc (fun u t H1 locs1 ht hvm hpost hB hz1 hk1 hS1 => ?_)
  obtain ⟨hRt, hrr, hMOK, hlen, hssum, had, hsA2⟩ := hpost
  obtain ⟨hP1, hK1, hD1⟩ := hB
  rw [ht] at hP1
  have hkk := k 0 u.1 hRt u.2 H1 locs1 (cells + rm.cells) (slots + rm.slots) ls ⟨⟨hP1, hD1.weaken (fun _ _ _ h => hFc _ h), hS1⟩, ⟨hMOK, env_ext hl (fun i hi => cv_ext had hsA hsA2 (hvr i (by omega))), fun i hi => vok_mono (by omega) (hvr i hi), (fun v hv => vok_mono (by omega) (hvt v hv))⟩, ⟨⟨by omega, fun k hk => (had k (by omega)).trans (had0 k hk)⟩, hsA2⟩, by omega, by omega, by omega, by omega, hlc, hls⟩
  have hsvm : sv.map (cv u.2) = sv.map (cv ad) := List.map_congr_left (fun v hv => cv_ext had hsA hsA2 (hvt v hv))
  rw [hsvm] at hkk
  exact hkk
theorem G_callIN (hG : Mach own cc nL mn R ret nt L xs Rt G) {idx n maxL : Nat} {y : MethodName} {cy : ByteArray} {rm : Room} {Me : Mt} {av : List Vv} (hM : MOkV y cy maxL rm Me) (hR : Rok rm R maxL) (hlen0 : av.length = n + 1) (hsv : sv.length ≤ 8) (hdg : decode cc pc = .ok (.invokespecial idx, 3)) {host : String} (hk : CkIN own idx host y cy maxL n) (hcap : M.1.length + rm.cells ≤ limC ρ ∧ ssum M.1 + rm.slots ≤ limS ρ) {q : Nat} (hq0 : av[0]? = some (.inr (some q))) {K : Int → Mm → Prop} (hMe : Me av K M) (k : ∀ r M2, K r M2 → G (pc + 3) (sv) ρ M2) : G pc (av.reverse ++ sv) ρ M := by
  obtain ⟨p, l, e, s, m, args, below, meth, c, dC, dI, cI, cC, cS, sA, A, n0, S0, ad0, Q, ⟨hx, hb, hml, hown, hts, hK, hA, hSt, hmn, hnL, hRI, hRV⟩, rfl⟩ := hG
  intro ad H locs cells slots ls hpt
  obtain ⟨⟨hP, hD, hS⟩, ⟨hM0, hl, hvr, hvs⟩, ⟨⟨hn0, had0⟩, hsA⟩, hcn, hsn, hcl, hsl, hlc, hls⟩ := hpt
  have hFc : ∀ q, va_A (wsOf cI cC cS ad M) H.size q → A q := fun q h => by
    rcases h with ⟨k, e0, h⟩ | h
    · exact hD.2 k (q, e0) h
    · exact hA q (Nat.le_trans hS.1 h)
  have hva : ∀ v ∈ av, vok M v := fun v hv => hvs v (List.mem_append_left _ (List.mem_reverse.mpr hv))
  have hvt : ∀ v ∈ sv, vok M v := fun v hv => hvs v (List.mem_append_right _ hv)
  have hpre : ∀ U : State, U.heap = H → s.WarmedH U.vm → PcM dC dI cI cC cS sA av M ad H.size ((av.map (cv ad)).toArray) U := fun U hU hW =>
    ⟨rfl, by rw [hU], by rw [hU]; exact hP, va_K.moved hW.alike hK, hD.weaken (fun _ _ _ _ => trivial), by rw [hU]; exact hSt.to hW (fun a h1 h2 => hS.2.1 a h1 h2) hS.1 hFc⟩
  have hMet := hM l dC dI cI cC cS sA av M ad H.size _ hM0 hva hsA hMe
  obtain ⟨v0, as, rfl⟩ : ∃ v0 as, av = v0 :: as := by
    cases av with
    | nil => simp at hlen0
    | cons v0 as => exact ⟨v0, as, rfl⟩
  obtain rfl : v0 = .inr (some q) := by simpa using hq0
  rw [show (((Sum.inr (some q) :: as).reverse ++ sv).map (cv ad)) = ((as.map (cv ad)).reverse ++ .ref (ad q) :: sv.map (cv ad)) by simp [cv]]
  refine va_callv (va_runIN (As := as.map (cv ad)) (rest := sv.map (cv ad)) ⟨hx, hb, hml, hown, hts⟩ hMet ⟨va_cnB (host := host) n hts (good_sub (code_in (hk.1 _ (by simp)))) rfl rfl rfl (hSt.2.2.2.2.2 _ hk.2.2.2) (hts _ (hk.1 _ (by simp))) hk.2.2.1 hR, hk.2.1, hts _ (hk.1 _ (by simp))⟩ ⟨blind _ _ _ _ _ _ _ _ _ _, fun U hU hW => hpre U hU hW⟩ rfl (by simpa using hlen0) hl.1 rfl (lv_room (by rw [cat_sum]; exact hsv)) hdg ⟨by omega, by omega⟩) hS (fun q _ h => hFc q h) hFc (fun u t H1 locs1 ht hvm hpost hB hz1 hk1 hS1 => ?_)
  obtain ⟨hRt, hrr, hMOK, hlen, hssum, had, hsA2⟩ := hpost
  obtain ⟨hP1, hK1, hD1⟩ := hB
  rw [ht] at hP1
  have hkk := k 0 u.1 hRt u.2 H1 locs1 (cells + rm.cells) (slots + rm.slots) ls ⟨⟨hP1, hD1.weaken (fun _ _ _ h => hFc _ h), hS1⟩, ⟨hMOK, env_ext hl (fun i hi => cv_ext had hsA hsA2 (hvr i (by omega))), fun i hi => vok_mono (by omega) (hvr i hi), (fun v hv => vok_mono (by omega) (hvt v hv))⟩, ⟨⟨by omega, fun k hk => (had k (by omega)).trans (had0 k hk)⟩, hsA2⟩, by omega, by omega, by omega, by omega, hlc, hls⟩
  have hsvm : sv.map (cv u.2) = sv.map (cv ad) := List.map_congr_left (fun v hv => cv_ext had hsA hsA2 (hvt v hv))
  rw [hsvm] at hkk
  exact hkk
end RULES
end
section
theorem ssum_app (a b : List (Nat × Nat)) : ssum (a ++ b) = ssum a + ssum b := by simp [ssum]
theorem ext_up {M : Mm} {ad : Nat → Nat} (hM : MOK M) (a : Nat) : ∀ k, k < M.1.length → va_up ad M.1.length a k = ad k := fun k hk => va_up_ne _ _ (by omega)
theorem cell_pu {cI cC cS : ClassId} {M : Mm} (hM : MOK M) {ad ad' : Nat → Nat} {w0 : Nat × Nat} (had : ∀ k, k < M.1.length → ad' k = ad k) (q : Nat) (w : Nat × Nat) : cellE cI cC cS ad' (pu M w0) q w = cellE cI cC cS ad M q w := by
  have hr : ∀ j, (M.2.2 q j).map ad' = (M.2.2 q j).map ad := fun j => by
    cases e : M.2.2 q j with
    | none => rfl
    | some k => simp only [Option.map_some]; rw [had k (hM.2.2.1 q j k e)]
  have hf : fvs ad' (pu M w0) q (clR w.1) = fvs ad M q (clR w.1) := by
    unfold fvs
    apply List.map_congr_left
    intro k _
    show (if _ then va_rf ((M.2.2 q k).map ad') else _) = _
    rw [hr]
    rfl
  unfold cellE
  rw [hf]
  have hg : (fun j => ((pu M w0).2.2 q j).map ad') = fun j => (M.2.2 q j).map ad := funext hr
  rw [hg]
  rfl
theorem ws_pu {cI cC cS : ClassId} {M : Mm} (hM : MOK M) {ad : Nat → Nat} {a : Nat} {w : Nat × Nat} : wsOf cI cC cS ad M ++ [(a, cellE cI cC cS ad M M.1.length w)] = wsOf cI cC cS (va_up ad M.1.length a) (pu M w) := by
  apply List.ext_getElem?
  intro i
  have hpl : (pu M w).1.length = M.1.length + 1 := by simp [pu]
  rcases Nat.lt_trichotomy i M.1.length with h | h | h
  · rw [List.getElem?_append_left (by rw [ws_len]; exact h)]
    obtain ⟨w', hw⟩ : ∃ w', M.1[i]? = some w' := ⟨_, List.getElem?_eq_getElem h⟩
    rw [ws_get hw, ws_get (M := pu M w) (w := w') (by show (M.1 ++ [w])[i]? = _; rw [List.getElem?_append_left h]; exact hw), cell_pu hM (ext_up hM a), ext_up hM a i h]
  · subst h
    rw [List.getElem?_append_right (by rw [ws_len]; exact Nat.le_refl _), ws_len, Nat.sub_self]
    rw [ws_get (M := pu M w) (w := w) (by show (M.1 ++ [w])[M.1.length]? = _; simp), cell_pu hM (ext_up hM a), va_up_self]
    rfl
  · rw [List.getElem?_eq_none (by simp [ws_len]; omega), List.getElem?_eq_none (by rw [ws_len, hpl]; omega)]
/-- what the tables say of a new object -/
def Nok (own : String) (idx ci : Nat) : Prop := ∃ (C : String) (T : u_T) (N : Nat) (ty : Nat → FieldType), vwCl[ci]? = some (C, T, N) ∧ (∀ w ∈ u_ws C T N, w ∈ gtb) ∧ (∀ k, k < N → parseFieldDescriptor (T k).2.2.1 = some (ty k)) ∧ Cond.classLink own idx C ∈ gtb ∧ Cond.instantiable C N ∈ gtb ∧ Cond.initialized C ∈ gtb ∧ ci < 8 ∧ (clR ci).length = N ∧ ∀ j, j < N → defaultValue (ty j) = if (clR ci).getD j false = true then .null else .int 0
section RULES
variable {own : String} {cc : ByteArray} {nL : Nat} {mn : String} {R : Room} {ret : Option FieldType} {nt L : Nat} {xs : Nat → Int} {Rt : Int → Mm → Prop} {G : Gt} {pc : Nat} {sv : List Vv} {ρ : En} {M : Mm}
theorem G_new (hG : Mach own cc nL mn R ret nt L xs Rt G) {idx ci : Nat} (F : Nok own idx ci) (hcap : M.1.length + 1 ≤ limC ρ ∧ ssum M.1 + (clR ci).length ≤ limS ρ) (hbig : M.1.length + 1 ≤ 1000000) (hdg : decode cc pc = .ok (.new idx, 3)) (k : G (pc + 3) (.inr (some M.1.length) :: sv) ρ (pu M (ci, 0))) : G pc sv ρ M := by
  obtain ⟨p, l, e, s, m, args, below, meth, c, dC, dI, cI, cC, cS, sA, A, n0, S0, ad0, Q, ⟨hx, hb, hml, hown, hts, hK, hA, hSt, hmn, hnL, hRI, hRV⟩, rfl⟩ := hG
  intro ad H locs cells slots ls hpt
  obtain ⟨⟨hP, hD, hS⟩, ⟨hM, hl, hvr, hvs⟩, ⟨⟨hn0, had0⟩, hsA⟩, hcn, hsn, hcl, hsl, hlc, hls⟩ := hpt
  obtain ⟨C, T, N, ty, hc, hin, hty, hcl1, hins, hini, hci, hlN, hdf⟩ := F
  have hfs : ∀ j, j < N → defaultValue (ty j) = vp_V (fvs ad M M.1.length (clR ci)) j := fun j hj => by
    rw [hdf j hj]
    obtain ⟨b, hb⟩ : ∃ b, (clR ci)[j]? = some b := ⟨_, List.getElem?_eq_getElem (by omega)⟩
    unfold vp_V
    rw [List.getD_eq_getElem?_getD, List.getD_eq_getElem?_getD, fvs_get hb, hb]
    obtain ⟨h1, h2⟩ := hM.2.2.2 M.1.length j (Nat.le_refl _)
    rw [h1, h2]
    cases b <;> rfl
  refine va_new hx hb hts hin ty hty hown (hts _ hcl1) (hts _ hins) (hts _ hini) hK hP hD hS hA hc hfs (by omega) (by omega) hdg (fun q H1 hP1 hD1 hS1 => ?_)
  rw [← cell_ob (cI := cI) (cC := cC) (cS := cS) (w := 0) hci, ws_pu hM] at hP1 hD1
  subst hlN
  have hM := hM
  have hadn : ∀ k, k < M.1.length → va_up ad M.1.length q k = ad k := ext_up hM q
  have hsA1 : ∀ t, va_up ad M.1.length q (1000000 + t) = sA t := fun t => by rw [va_up_ne _ _ (by have := hM.1; omega)]; exact hsA t
  have hpl : (pu M (ci, 0)).1.length = M.1.length + 1 := by simp [pu]
  have hps : ssum (pu M (ci, 0)).1 = ssum M.1 + (clR ci).length := by rw [show (pu M (ci, 0)).1 = M.1 ++ [(ci, 0)] from rfl, ssum_app]; simp [ssum, ssz, hci]
  have hsvm : sv.map (cv (va_up ad M.1.length q)) = sv.map (cv ad) := List.map_congr_left (fun v hv => cv_ext hadn hsA hsA1 (hvs v hv))
  have hkk := k (va_up ad M.1.length q) H1 locs (cells + 1) (slots + (clR ci).length) ls ⟨⟨hP1, hD1, hS1⟩, ⟨MOK_pu hM (by omega), env_ext hl (fun i hi => cv_ext hadn hsA hsA1 (hvr i (by omega))), fun i hi => vok_pu (hvr i hi), List.forall_mem_cons.mpr ⟨Or.inl (by rw [hpl]; omega), fun v hv => vok_pu (hvs v hv)⟩⟩, ⟨⟨by rw [hpl]; omega, fun k hk => (hadn k (by omega)).trans (had0 k hk)⟩, hsA1⟩, by rw [hpl]; omega, by rw [hps]; omega, by omega, by omega, hlc, hls⟩
  rw [List.map_cons, hsvm, show cv (va_up ad M.1.length q) (.inr (some M.1.length)) = .ref q by show Value.ref _ = _; rw [va_up_self]] at hkk
  exact hkk
theorem G_newI (hG : Mach own cc nL mn R ret nt L xs Rt G) {z : Int} {n : Nat} (hz0 : z = n) (hnr : n ≤ 100000000) (hac : Cond.arrayClass .int ∈ gtb) (hcap : M.1.length + 1 ≤ limC ρ ∧ ssum M.1 + n ≤ limS ρ) (hbig : M.1.length + 1 ≤ 1000000) (hdg : decode cc pc = .ok (.newarray .int, 2)) (k : G (pc + 2) (.inr (some M.1.length) :: sv) ρ (pu M (20, n))) : G pc (.inl z :: sv) ρ M := by
  obtain ⟨p, l, e, s, m, args, below, meth, c, dC, dI, cI, cC, cS, sA, A, n0, S0, ad0, Q, ⟨hx, hb, hml, hown, hts, hK, hA, hSt, hmn, hnL, hRI, hRV⟩, rfl⟩ := hG
  intro ad H locs cells slots ls hpt
  obtain ⟨⟨hP, hD, hS⟩, ⟨hM, hl, hvr, hvs⟩, ⟨⟨hn0, had0⟩, hsA⟩, hcn, hsn, hcl, hsl, hlc, hls⟩ := hpt
  subst hz0
  have hzr : inR (n : Int) := ⟨by omega, by omega⟩
  refine va_newa (N' := n) (atype := .int) (a0 := (n, .inl (fun j => zI (M.2.1 M.1.length j)))) (ty := .int) hx hb (hts _ hac) rfl hK hP hD hS hA (fun cA => ?_) (fun h => ?_) ((zI_cl hzr).trans (Int.toNat_natCast n)) (by show n * _ ≤ _; simp [componentBytes]; omega) (by omega) (by omega) hdg (fun q cA H1 hK1 hP1 hD1 hS1 => ?_)
  · rw [vp_cell_i]
    congr 1
    funext j
    rw [(hM.2.2.2 M.1.length j (Nat.le_refl _)).1]
    rfl
  · rw [← zI_0, zI_lt hzr inR_0] at h
    omega
  have hcA : cA = cI := by
    have h1 := (hK1.2 3 (cA, .int) rfl).2
    have h2 := (hK.2 0 (cI, .int) rfl).2
    have h3 : s.vm.findClass _ = some cA := h1
    have h4 : s.vm.findClass _ = some cI := h2
    rw [h3] at h4
    exact Option.some.inj h4
  subst hcA
  rw [← cell_in, ws_pu hM] at hP1 hD1
  have hM := hM
  have hadn : ∀ k, k < M.1.length → va_up ad M.1.length q k = ad k := ext_up hM q
  have hsA1 : ∀ t, va_up ad M.1.length q (1000000 + t) = sA t := fun t => by rw [va_up_ne _ _ (by have := hM.1; omega)]; exact hsA t
  have hpl : (pu M (20, n)).1.length = M.1.length + 1 := by simp [pu]
  have hps : ssum (pu M (20, n)).1 = ssum M.1 + n := by rw [show (pu M (20, n)).1 = M.1 ++ [(20, n)] from rfl, ssum_app]; simp [ssum, ssz]
  have hsvm : sv.map (cv (va_up ad M.1.length q)) = sv.map (cv ad) := List.map_congr_left (fun v hv => cv_ext hadn hsA hsA1 (hvs v (List.mem_cons_of_mem _ hv)))
  have hkk := k (va_up ad M.1.length q) H1 locs (cells + 1) (slots + n) ls ⟨⟨hP1, hD1, hS1⟩, ⟨MOK_pu hM (by omega), env_ext hl (fun i hi => cv_ext hadn hsA hsA1 (hvr i (by omega))), fun i hi => vok_pu (hvr i hi), List.forall_mem_cons.mpr ⟨Or.inl (by rw [hpl]; omega), fun v hv => vok_pu (hvs v (List.mem_cons_of_mem _ hv))⟩⟩, ⟨⟨by rw [hpl]; omega, fun k hk => (hadn k (by omega)).trans (had0 k hk)⟩, hsA1⟩, by rw [hpl]; omega, by rw [hps]; omega, by omega, by omega, hlc, hls⟩
  rw [List.map_cons, hsvm, show cv (va_up ad M.1.length q) (.inr (some M.1.length)) = .ref q by show Value.ref _ = _; rw [va_up_self]] at hkk
  exact hkk
theorem G_newC (hG : Mach own cc nL mn R ret nt L xs Rt G) {z : Int} {n : Nat} (hz0 : z = n) (hnr : n ≤ 100000000) (hac : Cond.arrayClass .char ∈ gtb) (hcap : M.1.length + 1 ≤ limC ρ ∧ ssum M.1 + n ≤ limS ρ) (hbig : M.1.length + 1 ≤ 1000000) (hdg : decode cc pc = .ok (.newarray .char, 2)) (k : G (pc + 2) (.inr (some M.1.length) :: sv) ρ (pu M (21, n))) : G pc (.inl z :: sv) ρ M := by
  obtain ⟨p, l, e, s, m, args, below, meth, c, dC, dI, cI, cC, cS, sA, A, n0, S0, ad0, Q, ⟨hx, hb, hml, hown, hts, hK, hA, hSt, hmn, hnL, hRI, hRV⟩, rfl⟩ := hG
  intro ad H locs cells slots ls hpt
  obtain ⟨⟨hP, hD, hS⟩, ⟨hM, hl, hvr, hvs⟩, ⟨⟨hn0, had0⟩, hsA⟩, hcn, hsn, hcl, hsl, hlc, hls⟩ := hpt
  subst hz0
  have hzr : inR (n : Int) := ⟨by omega, by omega⟩
  refine va_newa (N' := n) (atype := .char) (a0 := (n, .inl (fun j => zI (M.2.1 M.1.length j)))) (ty := .char) hx hb (hts _ hac) rfl hK hP hD hS hA (fun cA => ?_) (fun h => ?_) ((zI_cl hzr).trans (Int.toNat_natCast n)) (by show n * _ ≤ _; simp [componentBytes]; omega) (by omega) (by omega) hdg (fun q cA H1 hK1 hP1 hD1 hS1 => ?_)
  · rw [vp_cell_i]
    congr 1
    funext j
    rw [(hM.2.2.2 M.1.length j (Nat.le_refl _)).1]
    rfl
  · rw [← zI_0, zI_lt hzr inR_0] at h
    omega
  have hcA : cA = cC := by
    have h1 := (hK1.2 3 (cA, .char) rfl).2
    have h2 := (hK.2 1 (cC, .char) rfl).2
    have h3 : s.vm.findClass _ = some cA := h1
    have h4 : s.vm.findClass _ = some cC := h2
    rw [h3] at h4
    exact Option.some.inj h4
  subst hcA
  rw [← cell_ch, ws_pu hM] at hP1 hD1
  have hM := hM
  have hadn : ∀ k, k < M.1.length → va_up ad M.1.length q k = ad k := ext_up hM q
  have hsA1 : ∀ t, va_up ad M.1.length q (1000000 + t) = sA t := fun t => by rw [va_up_ne _ _ (by have := hM.1; omega)]; exact hsA t
  have hpl : (pu M (21, n)).1.length = M.1.length + 1 := by simp [pu]
  have hps : ssum (pu M (21, n)).1 = ssum M.1 + n := by rw [show (pu M (21, n)).1 = M.1 ++ [(21, n)] from rfl, ssum_app]; simp [ssum, ssz]
  have hsvm : sv.map (cv (va_up ad M.1.length q)) = sv.map (cv ad) := List.map_congr_left (fun v hv => cv_ext hadn hsA hsA1 (hvs v (List.mem_cons_of_mem _ hv)))
  have hkk := k (va_up ad M.1.length q) H1 locs (cells + 1) (slots + n) ls ⟨⟨hP1, hD1, hS1⟩, ⟨MOK_pu hM (by omega), env_ext hl (fun i hi => cv_ext hadn hsA hsA1 (hvr i (by omega))), fun i hi => vok_pu (hvr i hi), List.forall_mem_cons.mpr ⟨Or.inl (by rw [hpl]; omega), fun v hv => vok_pu (hvs v (List.mem_cons_of_mem _ hv))⟩⟩, ⟨⟨by rw [hpl]; omega, fun k hk => (hadn k (by omega)).trans (had0 k hk)⟩, hsA1⟩, by rw [hpl]; omega, by rw [hps]; omega, by omega, by omega, hlc, hls⟩
  rw [List.map_cons, hsvm, show cv (va_up ad M.1.length q) (.inr (some M.1.length)) = .ref q by show Value.ref _ = _; rw [va_up_self]] at hkk
  exact hkk
theorem G_newR (hG : Mach own cc nL mn R ret nt L xs Rt G) {z : Int} {n idx : Nat} (hz0 : z = n) (hnr : n ≤ 100000000) (hcl1 : Cond.classLink own idx "SungSlides$State" ∈ gtb) (hcap : M.1.length + 1 ≤ limC ρ ∧ ssum M.1 + n ≤ limS ρ) (hbig : M.1.length + 1 ≤ 1000000) (hdg : decode cc pc = .ok (.anewarray idx, 3)) (k : G (pc + 3) (.inr (some M.1.length) :: sv) ρ (pu M (22, n))) : G pc (.inl z :: sv) ρ M := by
  obtain ⟨p, l, e, s, m, args, below, meth, c, dC, dI, cI, cC, cS, sA, A, n0, S0, ad0, Q, ⟨hx, hb, hml, hown, hts, hK, hA, hSt, hmn, hnL, hRI, hRV⟩, rfl⟩ := hG
  intro ad H locs cells slots ls hpt
  obtain ⟨⟨hP, hD, hS⟩, ⟨hM, hl, hvr, hvs⟩, ⟨⟨hn0, had0⟩, hsA⟩, hcn, hsn, hcl, hsl, hlc, hls⟩ := hpt
  subst hz0
  have hzr : inR (n : Int) := ⟨by omega, by omega⟩
  refine va_newq (C := "SungSlides$State") (N' := n) hx hb hown (hts _ hcl1) hSt.2.2.2.2.1 hK hP hD hS hA (fun h => ?_) ((zI_cl hzr).trans (Int.toNat_natCast n)) (by omega) (by omega) (by omega) hdg (fun q cA H1 hK1 hP1 hD1 hS1 => ?_)
  · rw [← zI_0, zI_lt hzr inR_0] at h
    omega
  have hcA : cA = cS := by
    obtain ⟨-, -, -, -, -, h1⟩ := (hK1.2 3 (cA, .object "SungSlides$State") rfl).2
    obtain ⟨-, -, -, -, -, h2⟩ := (hK.2 2 (cS, .object "SungSlides$State") rfl).2
    rw [h1] at h2
    exact Option.some.inj h2
  subst hcA
  have hce : cellE cI cC cA ad M M.1.length (22, n) = .inl (cA, n, .inr (.inr (.inr (.inr (fun _ => none))))) := by
    rw [cell_rf]
    have : (fun j => (M.2.2 M.1.length j).map ad) = fun _ => none := by
      funext j
      rw [(hM.2.2.2 M.1.length j (Nat.le_refl _)).2]
      rfl
    rw [this]
  rw [← hce, ws_pu hM] at hP1 hD1
  have hM := hM
  have hadn : ∀ k, k < M.1.length → va_up ad M.1.length q k = ad k := ext_up hM q
  have hsA1 : ∀ t, va_up ad M.1.length q (1000000 + t) = sA t := fun t => by rw [va_up_ne _ _ (by have := hM.1; omega)]; exact hsA t
  have hpl : (pu M (22, n)).1.length = M.1.length + 1 := by simp [pu]
  have hps : ssum (pu M (22, n)).1 = ssum M.1 + n := by rw [show (pu M (22, n)).1 = M.1 ++ [(22, n)] from rfl, ssum_app]; simp [ssum, ssz]
  have hsvm : sv.map (cv (va_up ad M.1.length q)) = sv.map (cv ad) := List.map_congr_left (fun v hv => cv_ext hadn hsA hsA1 (hvs v (List.mem_cons_of_mem _ hv)))
  have hkk := k (va_up ad M.1.length q) H1 locs (cells + 1) (slots + n) ls ⟨⟨hP1, hD1, hS1⟩, ⟨MOK_pu hM (by omega), env_ext hl (fun i hi => cv_ext hadn hsA hsA1 (hvr i (by omega))), fun i hi => vok_pu (hvr i hi), List.forall_mem_cons.mpr ⟨Or.inl (by rw [hpl]; omega), fun v hv => vok_pu (hvs v (List.mem_cons_of_mem _ hv))⟩⟩, ⟨⟨by rw [hpl]; omega, fun k hk => (hadn k (by omega)).trans (had0 k hk)⟩, hsA1⟩, by rw [hpl]; omega, by rw [hps]; omega, by omega, by omega, hlc, hls⟩
  rw [List.map_cons, hsvm, show cv (va_up ad M.1.length q) (.inr (some M.1.length)) = .ref q by show Value.ref _ = _; rw [va_up_self]] at hkk
  exact hkk
theorem G_mmax (hG : Mach own cc nL mn R ret nt L xs Rt G) {x y : Int} {idx : Nat} (hk : ∀ w ∈ ([.methodLink own idx Lib.Math.max.name, .static Lib.Math.max.name, .initialized "java/lang/Math", .code Lib.Math.max.name Lib.Math.max.code 2 (some .int)] : List Cond), w ∈ gtb) (hR : 1 ≤ R.frames ∧ sv.length + 13 ≤ R.locals) (hdg : decode cc pc = .ok (.invokestatic idx, 3)) (k : G (pc + 3) (.inl (if x < y then y else x) :: sv) ρ M) : G pc (.inl y :: .inl x :: sv) ρ M := by
  obtain ⟨p, l, e, s, m, args, below, meth, c, dC, dI, cI, cC, cS, sA, A, n0, S0, ad0, Q, ⟨hx, hb, hml, hown, hts, hK, hA, hSt, hmn, hnL, hRI, hRV⟩, rfl⟩ := hG
  intro ad H locs cells slots ls hpt
  obtain ⟨⟨hP, hD, hS⟩, ⟨hM, hl, hvr, hvs⟩, ⟨⟨hn0, had0⟩, hsA⟩, hcn, hsn, hcl, hsl, hlc, hls⟩ := hpt
  have hxr : inR x := (hvs _ (List.mem_cons_of_mem _ List.mem_cons_self))
  have hyr : inR y := (hvs _ List.mem_cons_self)
  have hz : inR (if x < y then y else x) := by split <;> assumption
  refine va_mmax hx hb (hml.trans hl.1.symm) hown (hts _ (hk _ (by simp))) (hts _ (hk _ (by simp))) (hts _ (hk _ (by simp))) (hts _ (hk _ (by simp))) hR.1 (by rw [cat_sum]; exact hR.2) hcl hsl hdg ?_
  have hkk := k ad H locs cells slots ls ⟨⟨hP, hD, hS⟩, ⟨hM, hl, hvr, (List.forall_mem_cons.mpr ⟨hz, (fun v hv => hvs v (List.mem_cons_of_mem _ (List.mem_cons_of_mem _ hv)))⟩)⟩, ⟨⟨hn0, had0⟩, hsA⟩, hcn, hsn, hcl, hsl, hlc, hls⟩
  have he : (if zI x < zI y then zI y else zI x) = zI (if x < y then y else x) := by
    simp only [zI_lt hxr hyr]
    split <;> first | rfl | (rw [← zI_0, zI_sub])
  rw [he]
  exact hkk
theorem G_mmin (hG : Mach own cc nL mn R ret nt L xs Rt G) {x y : Int} {idx : Nat} (hk : ∀ w ∈ ([.methodLink own idx Lib.Math.min.name, .static Lib.Math.min.name, .initialized "java/lang/Math", .code Lib.Math.min.name Lib.Math.min.code 2 (some .int)] : List Cond), w ∈ gtb) (hR : 1 ≤ R.frames ∧ sv.length + 13 ≤ R.locals) (hdg : decode cc pc = .ok (.invokestatic idx, 3)) (k : G (pc + 3) (.inl (if y < x then y else x) :: sv) ρ M) : G pc (.inl y :: .inl x :: sv) ρ M := by
  obtain ⟨p, l, e, s, m, args, below, meth, c, dC, dI, cI, cC, cS, sA, A, n0, S0, ad0, Q, ⟨hx, hb, hml, hown, hts, hK, hA, hSt, hmn, hnL, hRI, hRV⟩, rfl⟩ := hG
  intro ad H locs cells slots ls hpt
  obtain ⟨⟨hP, hD, hS⟩, ⟨hM, hl, hvr, hvs⟩, ⟨⟨hn0, had0⟩, hsA⟩, hcn, hsn, hcl, hsl, hlc, hls⟩ := hpt
  have hxr : inR x := (hvs _ (List.mem_cons_of_mem _ List.mem_cons_self))
  have hyr : inR y := (hvs _ List.mem_cons_self)
  have hz : inR (if y < x then y else x) := by split <;> assumption
  refine va_mmin hx hb (hml.trans hl.1.symm) hown (hts _ (hk _ (by simp))) (hts _ (hk _ (by simp))) (hts _ (hk _ (by simp))) (hts _ (hk _ (by simp))) hR.1 (by rw [cat_sum]; exact hR.2) hcl hsl hdg ?_
  have hkk := k ad H locs cells slots ls ⟨⟨hP, hD, hS⟩, ⟨hM, hl, hvr, (List.forall_mem_cons.mpr ⟨hz, (fun v hv => hvs v (List.mem_cons_of_mem _ (List.mem_cons_of_mem _ hv)))⟩)⟩, ⟨⟨hn0, had0⟩, hsA⟩, hcn, hsn, hcl, hsl, hlc, hls⟩
  have he : (if zI y < zI x then zI y else zI x) = zI (if y < x then y else x) := by
    simp only [zI_lt hyr hxr]
    split <;> first | rfl | (rw [← zI_0, zI_sub])
  rw [he]
  exact hkk
theorem G_mabs (hG : Mach own cc nL mn R ret nt L xs Rt G) {x : Int} {idx : Nat} (hk : ∀ w ∈ ([.methodLink own idx Lib.Math.abs.name, .static Lib.Math.abs.name, .initialized "java/lang/Math", .code Lib.Math.abs.name Lib.Math.abs.code 1 (some .int)] : List Cond), w ∈ gtb) (hR : 1 ≤ R.frames ∧ sv.length + 13 ≤ R.locals) (hz : inR (if 0 ≤ x then x else 0 - x)) (hdg : decode cc pc = .ok (.invokestatic idx, 3)) (k : G (pc + 3) (.inl (if 0 ≤ x then x else 0 - x) :: sv) ρ M) : G pc (.inl x :: sv) ρ M := by
  obtain ⟨p, l, e, s, m, args, below, meth, c, dC, dI, cI, cC, cS, sA, A, n0, S0, ad0, Q, ⟨hx, hb, hml, hown, hts, hK, hA, hSt, hmn, hnL, hRI, hRV⟩, rfl⟩ := hG
  intro ad H locs cells slots ls hpt
  obtain ⟨⟨hP, hD, hS⟩, ⟨hM, hl, hvr, hvs⟩, ⟨⟨hn0, had0⟩, hsA⟩, hcn, hsn, hcl, hsl, hlc, hls⟩ := hpt
  have hxr : inR x := (hvs _ List.mem_cons_self)
  refine va_mabs hx hb (hml.trans hl.1.symm) hown (hts _ (hk _ (by simp))) (hts _ (hk _ (by simp))) (hts _ (hk _ (by simp))) (hts _ (hk _ (by simp))) hR.1 (by rw [cat_sum]; exact hR.2) hcl hsl hdg ?_
  have hkk := k ad H locs cells slots ls ⟨⟨hP, hD, hS⟩, ⟨hM, hl, hvr, (List.forall_mem_cons.mpr ⟨hz, (fun v hv => hvs v (List.mem_cons_of_mem _ hv))⟩)⟩, ⟨⟨hn0, had0⟩, hsA⟩, hcn, hsn, hcl, hsl, hlc, hls⟩
  have he : (if 0 ≤ zI x then zI x else 0 - zI x) = zI (if 0 ≤ x then x else 0 - x) := by
    simp only [show (0 ≤ zI x) = (0 ≤ x) from propext (by rw [← zI_0]; exact zI_le inR_0 hxr)]
    split <;> first | rfl | (rw [← zI_0, zI_sub])
  rw [he]
  exact hkk
theorem G_objI (hG : Mach own cc nL mn R ret nt L xs Rt G) {idx q : Nat} (hk : ∀ w ∈ ([.methodLink own idx Lib.objectInit, .instanceMethod Lib.objectInit, .code Lib.objectInit ⟨#[0xb1]⟩ 1 none] : List Cond), w ∈ gtb) (hR : 1 ≤ R.frames ∧ sv.length + 12 ≤ R.locals) (hdg : decode cc pc = .ok (.invokespecial idx, 3)) (k : G (pc + 3) sv ρ M) : G pc (.inr (some q) :: sv) ρ M := by
  obtain ⟨p, l, e, s, m, args, below, meth, c, dC, dI, cI, cC, cS, sA, A, n0, S0, ad0, Q, ⟨hx, hb, hml, hown, hts, hK, hA, hSt, hmn, hnL, hRI, hRV⟩, rfl⟩ := hG
  intro ad H locs cells slots ls hpt
  obtain ⟨⟨hP, hD, hS⟩, ⟨hM, hl, hvr, hvs⟩, ⟨⟨hn0, had0⟩, hsA⟩, hcn, hsn, hcl, hsl, hlc, hls⟩ := hpt
  refine W.objInit hx hb hown (hts _ (hk _ (by simp))) (hts _ (hk _ (by simp))) (hts _ (hk _ (by simp))) rfl (hl.1.trans hml.symm) rfl hdg hR.1 (by rw [cat_sum]; exact (by have := hR.2; show 2 * 0 + _ + 12 ≤ _; omega)) ?_
  exact k ad H locs cells slots ls ⟨⟨hP, hD, hS⟩, ⟨hM, hl, hvr, (fun v hv => hvs v (List.mem_cons_of_mem _ hv))⟩, ⟨⟨hn0, had0⟩, hsA⟩, hcn, hsn, hcl, hsl, hlc, hls⟩
/-- a stretch of ints is copied -/
def cpy (M : Mm) (q0 q1 : Nat) (sp dp n : Nat) : Mm := (M.1, fun q k => if q = q1 ∧ dp ≤ k ∧ k < dp + n then M.2.1 q0 (sp + (k - dp)) else M.2.1 q k, M.2.2)
def cpyT (f : Nat → Int) (M : Mm) (q1 : Nat) (sp dp n : Nat) : Mm := (M.1, fun q k => if q = q1 ∧ dp ≤ k ∧ k < dp + n then f (sp + (k - dp)) else M.2.1 q k, M.2.2)
theorem MOK_cpyT {f : Nat → Int} {M : Mm} {q1 sp dp n : Nat} (h : MOK M) (hf : ∀ j, inR (f j)) (hq : q1 < M.1.length) : MOK (cpyT f M q1 sp dp n) := by
  refine ⟨h.1, fun a b => ?_, h.2.2.1, fun a b hab => ⟨?_, (h.2.2.2 a b hab).2⟩⟩
  · show inR (if a = q1 ∧ dp ≤ b ∧ b < dp + n then f (sp + (b - dp)) else M.2.1 a b)
    split
    · exact hf _
    · exact h.2.1 a b
  · have hab' : M.1.length ≤ a := hab
    show (if a = q1 ∧ dp ≤ b ∧ b < dp + n then f (sp + (b - dp)) else M.2.1 a b) = 0
    rw [if_neg (by omega)]
    exact (h.2.2.2 a b hab).1
theorem MOK_cpy {M : Mm} {q0 q1 sp dp n : Nat} (h : MOK M) (hq : q1 < M.1.length) : MOK (cpy M q0 q1 sp dp n) := MOK_cpyT (f := M.2.1 q0) h (h.2.1 q0) hq
theorem cell_cpyT {cI cC cS : ClassId} {ad : Nat → Nat} {f : Nat → Int} {M : Mm} {q1 sp dp n : Nat} : ∀ r w', r ≠ q1 → cellE cI cC cS ad (cpyT f M q1 sp dp n) r w' = cellE cI cC cS ad M r w' := by
  intro r w' hr
  simp [cellE, fvs, cpyT, hr]
theorem cpy_fun {f : Nat → Int} {M : Mm} {q1 sp dp n : Nat} : va_cpy (fun j => zI (f j)) (fun j => zI (M.2.1 q1 j)) sp dp n = fun j => zI ((cpyT f M q1 sp dp n).2.1 q1 j) := by
  funext j
  by_cases h : dp ≤ j ∧ j < dp + n <;> simp [va_cpy, cpyT, h]
theorem G_copy (hG : Mach own cc nL mn R ret nt L xs Rt G) {idx q0 q1 n0 n1 : Nat} {sp dp n : Int} (hk : ∀ w ∈ ([.methodLink own idx arraycopyName, .native arraycopyName, .static arraycopyName, .initialized "java/lang/System"] : List Cond), w ∈ gtb) (hR : 1 ≤ R.frames ∧ sv.length + 18 ≤ R.locals) (hs0 : M.1[q0]? = some (20, n0)) (hs1 : M.1[q1]? = some (20, n1)) (h1 : 0 ≤ sp) (h2 : 0 ≤ dp) (h3 : 0 ≤ n) (h4 : sp + n ≤ (n0 : Int)) (h5 : dp + n ≤ (n1 : Int)) (hdg : decode cc pc = .ok (.invokestatic idx, 3)) (k : G (pc + 3) sv ρ (cpy M q0 q1 sp.toNat dp.toNat n.toNat)) : G pc (.inl n :: .inl dp :: .inr (some q1) :: .inl sp :: .inr (some q0) :: sv) ρ M := by
  obtain ⟨p, l, e, s, m, args, below, meth, c, dC, dI, cI, cC, cS, sA, A, n0, S0, ad0, Q, ⟨hx, hb, hml, hown, hts, hK, hA, hSt, hmn, hnL, hRI, hRV⟩, rfl⟩ := hG
  intro ad H locs cells slots ls hpt
  obtain ⟨⟨hP, hD, hS⟩, ⟨hM, hl, hvr, hvs⟩, ⟨⟨hn0, had0⟩, hsA⟩, hcn, hsn, hcl, hsl, hlc, hls⟩ := hpt
  have hspr : inR sp := hvs (.inl sp) (by simp)
  have hdpr : inR dp := hvs (.inl dp) (by simp)
  have hnr : inR n := hvs (.inl n) (by simp)
  have hneg : ∀ {z : Int}, inR z → 0 ≤ z → ¬ zI z < 0 := fun hz h0 h => by
    rw [← zI_0, zI_lt hz inR_0] at h
    omega
  have hq1l : q1 < M.1.length := (List.getElem?_eq_some_iff.mp hs1).1
  have he0 := ws_get (cI := cI) (cC := cC) (cS := cS) (ad := ad) hs0
  have he1 := ws_get (cI := cI) (cC := cC) (cS := cS) (ad := ad) hs1
  rw [cell_in] at he0 he1
  have hup := ws_upd (cI := cI) (cC := cC) (cS := cS) (ad := ad) (M' := cpyT (M.2.1 q0) M q1 sp.toNat dp.toNat n.toNat) hs1 rfl cell_cpyT
  rw [cell_in, ← cpy_fun] at hup
  refine va_copyi hx hb (hml.trans hl.1.symm) hown (hts _ (hk _ (by simp))) (hts _ (hk _ (by simp))) (hts _ (hk _ (by simp))) (hts _ (hk _ (by simp))) hK hP hD hS q0 q1 0 0 he0 he1 (show (tysOf cI cC cS)[0]? = some (cI, .int) from rfl) (show (tysOf cI cC cS)[0]? = some (cI, .int) from rfl) rfl (hneg hspr h1) (hneg hdpr h2) (hneg hnr h3) (by rw [zI_cl hspr, zI_cl hnr]; omega) (by rw [zI_cl hdpr, zI_cl hnr]; omega) (fun _ _ => rfl) hR.1 (by rw [cat_sum]; have := hR.2; show _ + (7 + 11) ≤ _; omega) hdg (fun H1 locs1 hP1 hD1 hS1 => ?_)
  rw [zI_cl hspr, zI_cl hnr, zI_cl hdpr, hup] at hP1 hD1
  exact k ad H1 locs1 cells slots ls ⟨⟨hP1, hD1, hS1⟩, ⟨MOK_cpy hM hq1l, hl, hvr, (fun v hv => hvs v (List.mem_cons_of_mem _ (List.mem_cons_of_mem _ (List.mem_cons_of_mem _ (List.mem_cons_of_mem _ (List.mem_cons_of_mem _ hv))))))⟩, ⟨⟨hn0, had0⟩, hsA⟩, hcn, hsn, hcl, hsl, hlc, hls⟩
theorem G_copyT (hG : Mach own cc nL mn R ret nt L xs Rt G) {idx t q1 n1 : Nat} {sp dp n : Int} (hk : ∀ w ∈ ([.methodLink own idx arraycopyName, .native arraycopyName, .static arraycopyName, .initialized "java/lang/System"] : List Cond), w ∈ gtb) (hR : 1 ≤ R.frames ∧ sv.length + 18 ≤ R.locals) (ht : t < 3) (hs1 : M.1[q1]? = some (20, n1)) (h1 : 0 ≤ sp) (h2 : 0 ≤ dp) (h3 : 0 ≤ n) (h4 : sp + n ≤ 5) (h5 : dp + n ≤ (n1 : Int)) (hdg : decode cc pc = .ok (.invokestatic idx, 3)) (k : G (pc + 3) sv ρ (cpyT (tVl xs t) M q1 sp.toNat dp.toNat n.toNat)) : G pc (.inl n :: .inl dp :: .inr (some q1) :: .inl sp :: .inr (some (1000000 + t)) :: sv) ρ M := by
  obtain ⟨p, l, e, s, m, args, below, meth, c, dC, dI, cI, cC, cS, sA, A, n0, S0, ad0, Q, ⟨hx, hb, hml, hown, hts, hK, hA, hSt, hmn, hnL, hRI, hRV⟩, rfl⟩ := hG
  intro ad H locs cells slots ls hpt
  obtain ⟨⟨hP, hD, hS⟩, ⟨hM, hl, hvr, hvs⟩, ⟨⟨hn0, had0⟩, hsA⟩, hcn, hsn, hcl, hsl, hlc, hls⟩ := hpt
  have hspr : inR sp := hvs (.inl sp) (by simp)
  have hdpr : inR dp := hvs (.inl dp) (by simp)
  have hnr : inR n := hvs (.inl n) (by simp)
  have hneg : ∀ {z : Int}, inR z → 0 ≤ z → ¬ zI z < 0 := fun hz h0 h => by
    rw [← zI_0, zI_lt hz inR_0] at h
    omega
  have hq1l : q1 < M.1.length := (List.getElem?_eq_some_iff.mp hs1).1
  obtain ⟨hX, hbl, hbA⟩ := hSt.2.1 t (by have := hSt.1; omega)
  have he1 := ws_get (cI := cI) (cC := cC) (cS := cS) (ad := ad) hs1
  rw [cell_in] at he1
  have hup := ws_upd (cI := cI) (cC := cC) (cS := cS) (ad := ad) (M' := cpyT (tVl xs t) M q1 sp.toNat dp.toNat n.toNat) hs1 rfl cell_cpyT
  rw [cell_in, ← cpy_fun] at hup
  simp only [List.map_cons]
  rw [show cv ad (.inr (some (1000000 + t))) = .ref (sA t) by rw [← hsA]; rfl]
  refine va_copyx hx hb (hml.trans hl.1.symm) hown (hts _ (hk _ (by simp))) (hts _ (hk _ (by simp))) (hts _ (hk _ (by simp))) (hts _ (hk _ (by simp))) hK hP hD hS hX hbl hbA q1 0 he1 (show (tysOf cI cC cS)[0]? = some (cI, .int) from rfl) (hneg hspr h1) (hneg hdpr h2) (hneg hnr h3) (by rw [zI_cl hspr, zI_cl hnr, tLn, if_pos ht]; omega) (by rw [zI_cl hdpr, zI_cl hnr]; omega) hR.1 (by rw [cat_sum]; have := hR.2; show _ + (7 + 11) ≤ _; omega) hdg (fun H1 locs1 hP1 hD1 hS1 => ?_)
  rw [zI_cl hspr, zI_cl hnr, zI_cl hdpr, hup] at hP1 hD1
  exact k ad H1 locs1 cells slots ls ⟨⟨hP1, hD1, hS1⟩, ⟨MOK_cpyT hM (hSt.2.2.1 t) hq1l, hl, hvr, (fun v hv => hvs v (List.mem_cons_of_mem _ (List.mem_cons_of_mem _ (List.mem_cons_of_mem _ (List.mem_cons_of_mem _ (List.mem_cons_of_mem _ hv))))))⟩, ⟨⟨hn0, had0⟩, hsA⟩, hcn, hsn, hcl, hsl, hlc, hls⟩
end RULES
end
section
/-! ===== expressions ===== -/
def iC (z : Int) : IE := fun K _ M => K z M
def iL (i : Nat) : IE := fun K ρ M => match ρ i with
  | .inl z => K z M
  | _ => False
def iF (ci j : Nat) (r : RE) : IE := fun K ρ M => r (fun o M => match o with
  | some q => (∃ w, M.1[q]? = some (ci, w)) ∧ K (M.2.1 q j) M
  | none => False) ρ M
def iA (r : RE) (i : IE) : IE := fun K ρ M => r (fun o M => i (fun x M => match o with
  | some q => ∃ n : Nat, M.1[q]? = some (20, n) ∧ 0 ≤ x ∧ x < (n : Int) ∧ K (M.2.1 q x.toNat) M
  | none => False) ρ M) ρ M
def iAc (r : RE) (i : IE) : IE := fun K ρ M => r (fun o M => i (fun x M => match o with
  | some q => ∃ n : Nat, M.1[q]? = some (21, n) ∧ 0 ≤ x ∧ x < (n : Int) ∧ K (M.2.1 q x.toNat) M
  | none => False) ρ M) ρ M
def iLen (r : RE) : IE := fun K ρ M => r (fun o M => match o with
  | some q => ∃ n : Nat, M.1[q]? = some (20, n) ∧ n < 2147483648 ∧ K (n : Int) M
  | none => False) ρ M
/-- of a table: a static one, or the script -/
def iT (L : Nat) (xs : Nat → Int) (t : Nat) (i : IE) : IE := fun K ρ M => i (fun x M => 0 ≤ x ∧ x < (tLn L t : Int) ∧ K (tVl xs t x.toNat) M) ρ M
/-- of the script, which is the local 0 -/
def iSc (L : Nat) (xs : Nat → Int) (i : IE) : IE := fun K ρ M => ρ 0 = .inr (some 1000003) ∧ i (fun x M => 0 ≤ x ∧ x < (L : Int) ∧ K (xs x.toNat) M) ρ M
def iScL (L : Nat) : IE := fun K ρ M => ρ 0 = .inr (some 1000003) ∧ L < 2147483648 ∧ K (L : Int) M
def iTn (L t : Nat) : IE := fun K _ M => K (tLn L t : Int) M
def iAdd (a b : IE) : IE := fun K ρ M => a (fun x M => b (fun y M => inR (x + y) ∧ K (x + y) M) ρ M) ρ M
def iSub (a b : IE) : IE := fun K ρ M => a (fun x M => b (fun y M => inR (x - y) ∧ K (x - y) M) ρ M) ρ M
def iMul (a b : IE) : IE := fun K ρ M => a (fun x M => b (fun y M => inR (x * y) ∧ K (x * y) M) ρ M) ρ M
def iDiv (a b : IE) : IE := fun K ρ M => a (fun x M => b (fun y M => y ≠ 0 ∧ inR (x.tdiv y) ∧ K (x.tdiv y) M) ρ M) ρ M
def iRem (a b : IE) : IE := fun K ρ M => a (fun x M => b (fun y M => y ≠ 0 ∧ inR (x.tmod y) ∧ K (x.tmod y) M) ρ M) ρ M
def iNeg (a : IE) : IE := fun K ρ M => a (fun x M => inR (-x) ∧ K (-x) M) ρ M
def iCh (a : IE) : IE := fun K ρ M => a (fun x M => K (x % 65536) M) ρ M
def iAnd31 (a : IE) : IE := fun K ρ M => a (fun x M => K (x % 32) M) ρ M
def iQ (c : CE) (a b : IE) : IE := fun K ρ M => c (fun M => a K ρ M) (fun M => b K ρ M) ρ M
def iMax (a b : IE) : IE := fun K ρ M => a (fun x M => b (fun y M => K (if x < y then y else x) M) ρ M) ρ M
def iMin (a b : IE) : IE := fun K ρ M => a (fun x M => b (fun y M => K (if y < x then y else x) M) ρ M) ρ M
def iAbs (a : IE) : IE := fun K ρ M => a (fun x M => inR (if 0 ≤ x then x else 0 - x) ∧ K (if 0 ≤ x then x else 0 - x) M) ρ M
def iCallS (Me : Mt) (a : AE) : IE := fun K ρ M => a (fun l M => Me l K M) ρ M
def iCallV (ci : Nat) (Me : Mt) (r : RE) (a : AE) : IE := fun K ρ M => r (fun o M => a (fun l M => match o with
  | some q => (∃ w, M.1[q]? = some (ci, w)) ∧ Me (.inr (some q) :: l) K M
  | none => False) ρ M) ρ M
def aN : AE := fun K _ M => K [] M
def aI (e : IE) (a : AE) : AE := fun K ρ M => e (fun x M => a (fun l M => K (.inl x :: l) M) ρ M) ρ M
def aR (e : RE) (a : AE) : AE := fun K ρ M => e (fun x M => a (fun l M => K (.inr x :: l) M) ρ M) ρ M
def rL (i : Nat) : RE := fun K ρ M => match ρ i with
  | .inr (some q) => K (some q) M
  | _ => False
def rF (ci j : Nat) (r : RE) : RE := fun K ρ M => r (fun o M => match o with
  | some q => (∃ w, M.1[q]? = some (ci, w)) ∧ K (M.2.2 q j) M
  | none => False) ρ M
def rA (r : RE) (i : IE) : RE := fun K ρ M => r (fun o M => i (fun x M => match o with
  | some q => ∃ n : Nat, M.1[q]? = some (22, n) ∧ 0 ≤ x ∧ x < (n : Int) ∧ K (M.2.2 q x.toNat) M
  | none => False) ρ M) ρ M
def capOK (ρ : En) (M : Mm) (w : Nat × Nat) : Prop := M.1.length + 1 ≤ limC ρ ∧ ssum M.1 + ssz w ≤ limS ρ ∧ M.1.length + 1 ≤ 1000000
def rNew (ci : Nat) (mc ms : Nat) (Me : Mt) (a : AE) : RE := fun K ρ M => capOK ρ M (ci, 0) ∧ a (fun l M1 => (M1.1.length + mc ≤ limC ρ ∧ ssum M1.1 + ms ≤ limS ρ) ∧ Me (.inr (some M.1.length) :: l) (fun _ M2 => K (some M.1.length) M2) M1) ρ (pu M (ci, 0))
def rNewI (e : IE) : RE := fun K ρ M => e (fun z M => ∃ n : Nat, z = n ∧ n ≤ 100000000 ∧ capOK ρ M (20, n) ∧ K (some M.1.length) (pu M (20, n))) ρ M
def rNewC (e : IE) : RE := fun K ρ M => e (fun z M => ∃ n : Nat, z = n ∧ n ≤ 100000000 ∧ capOK ρ M (21, n) ∧ K (some M.1.length) (pu M (21, n))) ρ M
def rNewR (e : IE) : RE := fun K ρ M => e (fun z M => ∃ n : Nat, z = n ∧ n ≤ 100000000 ∧ capOK ρ M (22, n) ∧ K (some M.1.length) (pu M (22, n))) ρ M
/-! ===== conditions ===== -/
def cEq (a b : IE) : CE := fun KT KF ρ M => a (fun x M => b (fun y M => if x = y then KT M else KF M) ρ M) ρ M
def cNe (a b : IE) : CE := fun KT KF ρ M => a (fun x M => b (fun y M => if x ≠ y then KT M else KF M) ρ M) ρ M
def cLt (a b : IE) : CE := fun KT KF ρ M => a (fun x M => b (fun y M => if x < y then KT M else KF M) ρ M) ρ M
def cGe (a b : IE) : CE := fun KT KF ρ M => a (fun x M => b (fun y M => if y ≤ x then KT M else KF M) ρ M) ρ M
def cGt (a b : IE) : CE := fun KT KF ρ M => a (fun x M => b (fun y M => if y < x then KT M else KF M) ρ M) ρ M
def cLe (a b : IE) : CE := fun KT KF ρ M => a (fun x M => b (fun y M => if x ≤ y then KT M else KF M) ρ M) ρ M
def cAnd (a b : CE) : CE := fun KT KF ρ M => a (fun M => b KT KF ρ M) KF ρ M
def cOr (a b : CE) : CE := fun KT KF ρ M => a KT (fun M => b KT KF ρ M) ρ M
def cNot (a : CE) : CE := fun KT KF ρ M => a KF KT ρ M
def cNull (r : RE) : CE := fun KT KF ρ M => r (fun o M => match o with
  | none => KT M
  | some _ => KF M) ρ M
/-! ===== statements ===== -/
def sSkip : ST := fun K _ ρ M => K ρ M
def sSeq (a b : ST) : ST := fun K Rt ρ M => a (fun ρ M => b K Rt ρ M) Rt ρ M
def sLoc (i : Nat) (e : IE) : ST := fun K _ ρ M => e (fun x M => K (va_up ρ i (.inl x)) M) ρ M
def sLocR (i : Nat) (e : RE) : ST := fun K _ ρ M => e (fun o M => match o with
  | some q => K (va_up ρ i (.inr (some q))) M
  | none => False) ρ M
def sInc (i : Nat) (n : Int) : ST := fun K _ ρ M => match ρ i with
  | .inl z => inR (z + n) ∧ K (va_up ρ i (.inl (z + n))) M
  | _ => False
def sPut (bo : Bool) (ci j : Nat) (r : RE) (e : IE) : ST := fun K _ ρ M => r (fun o M => e (fun x M => match o with
  | some q => (∃ w, M.1[q]? = some (ci, w)) ∧ (bo = true → x = 0 ∨ x = 1) ∧ K ρ (si M q j x)
  | none => False) ρ M) ρ M
def sPutR (ci j : Nat) (r r2 : RE) : ST := fun K _ ρ M => r (fun o M => r2 (fun o2 M => match o with
  | some q => match o2 with
    | some v => (∃ w, M.1[q]? = some (ci, w)) ∧ v < M.1.length ∧ K ρ (sr M q j (some v))
    | none => False
  | none => False) ρ M) ρ M
def sPutAdd (ci j : Nat) (r : RE) (e : IE) : ST := fun K _ ρ M => r (fun o M => match o with
  | some q => (∃ w, M.1[q]? = some (ci, w)) ∧ e (fun x M2 => (∃ w, M2.1[q]? = some (ci, w)) ∧ inR (M.2.1 q j + x) ∧ K ρ (si M2 q j (M.2.1 q j + x))) ρ M
  | none => False) ρ M
def sPutSub (ci j : Nat) (r : RE) (e : IE) : ST := fun K _ ρ M => r (fun o M => match o with
  | some q => (∃ w, M.1[q]? = some (ci, w)) ∧ e (fun x M2 => (∃ w, M2.1[q]? = some (ci, w)) ∧ inR (M.2.1 q j - x) ∧ K ρ (si M2 q j (M.2.1 q j - x))) ρ M
  | none => False) ρ M
def sAst (r : RE) (i e : IE) : ST := fun K _ ρ M => r (fun o M => i (fun x M => e (fun z M => match o with
  | some q => ∃ n : Nat, M.1[q]? = some (20, n) ∧ 0 ≤ x ∧ x < (n : Int) ∧ K ρ (si M q x.toNat z)
  | none => False) ρ M) ρ M) ρ M
def sCst (r : RE) (i e : IE) : ST := fun K _ ρ M => r (fun o M => i (fun x M => e (fun z M => match o with
  | some q => ∃ n : Nat, M.1[q]? = some (21, n) ∧ 0 ≤ x ∧ x < (n : Int) ∧ 0 ≤ z ∧ z < 65536 ∧ K ρ (si M q x.toNat z)
  | none => False) ρ M) ρ M) ρ M
def sRst (r : RE) (i : IE) (e : RE) : ST := fun K _ ρ M => r (fun o M => i (fun x M => e (fun v M => match o with
  | some q => match v with
    | some u => ∃ n w : Nat, M.1[q]? = some (22, n) ∧ M.1[u]? = some (4, w) ∧ 0 ≤ x ∧ x < (n : Int) ∧ K ρ (sr M q x.toNat (some u))
    | none => False
  | none => False) ρ M) ρ M) ρ M
def sAstAdd (r : RE) (i e : IE) : ST := fun K _ ρ M => r (fun o M => i (fun x M => match o with
  | some q => ∃ n : Nat, M.1[q]? = some (20, n) ∧ 0 ≤ x ∧ x < (n : Int) ∧ e (fun z M2 => ∃ n2 : Nat, M2.1[q]? = some (20, n2) ∧ x < (n2 : Int) ∧ inR (M.2.1 q x.toNat + z) ∧ K ρ (si M2 q x.toNat (M.2.1 q x.toNat + z))) ρ M
  | none => False) ρ M) ρ M
def sAstSub (r : RE) (i e : IE) : ST := fun K _ ρ M => r (fun o M => i (fun x M => match o with
  | some q => ∃ n : Nat, M.1[q]? = some (20, n) ∧ 0 ≤ x ∧ x < (n : Int) ∧ e (fun z M2 => ∃ n2 : Nat, M2.1[q]? = some (20, n2) ∧ x < (n2 : Int) ∧ inR (M.2.1 q x.toNat - z) ∧ K ρ (si M2 q x.toNat (M.2.1 q x.toNat - z))) ρ M
  | none => False) ρ M) ρ M
def sIf1 (c : CE) (a : ST) : ST := fun K Rt ρ M => c (fun M => a K Rt ρ M) (fun M => K ρ M) ρ M
def sIf (c : CE) (a b : ST) : ST := fun K Rt ρ M => c (fun M => a K Rt ρ M) (fun M => b K Rt ρ M) ρ M
def wit (c : CE) (b : ST) (K : En → Mm → Prop) (Rt : Int → Mm → Prop) : Nat → En → Mm → Prop
  | 0, _, _ => False
  | n + 1, ρ, M => c (fun M => b (wit c b K Rt n) Rt ρ M) (fun M => K ρ M) ρ M
def sWhile (c : CE) (b : ST) : ST := fun K Rt ρ M => ∃ n, wit c b K Rt n ρ M
def sRet (bo : Bool) (e : IE) : ST := fun _ Rt ρ M => e (fun x M => (bo = true → x = 0 ∨ x = 1) ∧ Rt x M) ρ M
def sRetV : ST := fun _ Rt _ M => Rt 0 M
def sCallV (ci : Nat) (Me : Mt) (r : RE) (a : AE) : ST := fun K _ ρ M => r (fun o M => a (fun l M => match o with
  | some q => (∃ w, M.1[q]? = some (ci, w)) ∧ Me (.inr (some q) :: l) (fun _ M2 => K ρ M2) M
  | none => False) ρ M) ρ M
def sCallS (Me : Mt) (a : AE) : ST := fun K _ ρ M => a (fun l M => Me l (fun _ M2 => K ρ M2) M) ρ M
def sPop (e : IE) : ST := fun K _ ρ M => e (fun _ M2 => K ρ M2) ρ M
def sCopy (a b : RE) (i j n : IE) : ST := fun K _ ρ M => a (fun o M => i (fun sp M => b (fun o2 M => j (fun dp M => n (fun k M => match o with
  | some q0 => match o2 with
    | some q1 => ∃ n0 n1 : Nat, M.1[q0]? = some (20, n0) ∧ M.1[q1]? = some (20, n1) ∧ 0 ≤ sp ∧ 0 ≤ dp ∧ 0 ≤ k ∧ sp + k ≤ (n0 : Int) ∧ dp + k ≤ (n1 : Int) ∧ K ρ (cpy M q0 q1 sp.toNat dp.toNat k.toNat)
    | none => False
  | none => False) ρ M) ρ M) ρ M) ρ M) ρ M
def sCopyT (xs : Nat → Int) (t : Nat) (b : RE) (i j n : IE) : ST := fun K _ ρ M => i (fun sp M => b (fun o2 M => j (fun dp M => n (fun k M => match o2 with
    | some q1 => ∃ n1 : Nat, M.1[q1]? = some (20, n1) ∧ 0 ≤ sp ∧ 0 ≤ dp ∧ 0 ≤ k ∧ sp + k ≤ 5 ∧ dp + k ≤ (n1 : Int) ∧ K ρ (cpyT (tVl xs t) M q1 sp.toNat dp.toNat k.toNat)
    | none => False) ρ M) ρ M) ρ M) ρ M
def sObj (r : RE) : ST := fun K _ ρ M => r (fun o M => match o with
  | some _ => K ρ M
  | none => False) ρ M
def sSw (e : IE) (lo : Int) (fs : List ST) (dflt : ST) : ST := fun K Rt ρ M => e (fun x M => if lo ≤ x ∧ x < lo + fs.length then (fs.getD (x - lo).toNat dflt) K Rt ρ M else dflt K Rt ρ M) ρ M
/-! ===== methods ===== -/
def ent (av : List Vv) (lc ls : Int) : En := fun i => match av[i]? with
  | some v => v
  | none => if i = 1000 then .inl lc else if i = 1001 then .inl ls else .inr none
def mkM (n : Nat) (al : List (Nat × Nat)) (S : ST) : Mt := fun av Rt M => av.length = n ∧ S (fun _ _ => False) (fun r M2 => M2.1 = M.1 ++ al ∧ Rt r M2) (ent av ((M.1.length + al.length : Nat) : Int) ((ssum M.1 + ssum al : Nat) : Int)) M
/-- of a method that makes nothing -/
def mk0 (n : Nat) (S : ST) : Mt := fun av Rt M => av.length = n ∧ S (fun _ _ => False) (fun r M2 => M2.1 = M.1 ∧ Rt r M2) (ent av 0 0) M
/-! ===== where they stand in the code ===== -/
def IAt (G : Gt) (pc pe d : Nat) (E : IE) : Prop := ∀ (K : Int → Mm → Prop) (ρ : En) (M : Mm) (sv : List Vv), sv.length ≤ d → E K ρ M → (∀ x M2, K x M2 → G pe (.inl x :: sv) ρ M2) → G pc sv ρ M
def RAt (G : Gt) (pc pe d : Nat) (E : RE) : Prop := ∀ (K : Option Nat → Mm → Prop) (ρ : En) (M : Mm) (sv : List Vv), sv.length ≤ d → E K ρ M → (∀ x M2, K x M2 → G pe (.inr x :: sv) ρ M2) → G pc sv ρ M
def CAt (G : Gt) (pc pt pf d : Nat) (C : CE) : Prop := ∀ (KT KF : Mm → Prop) (ρ : En) (M : Mm) (sv : List Vv), sv.length ≤ d → C KT KF ρ M → (∀ M2, KT M2 → G pt sv ρ M2) → (∀ M2, KF M2 → G pf sv ρ M2) → G pc sv ρ M
def AAt (G : Gt) (pc pe d n : Nat) (E : AE) : Prop := ∀ (K : List Vv → Mm → Prop) (ρ : En) (M : Mm) (sv : List Vv), sv.length ≤ d → E K ρ M → (∀ l M2, l.length = n → K l M2 → G pe (l.reverse ++ sv) ρ M2) → G pc sv ρ M
def SAt (G : Gt) (Rt : Int → Mm → Prop) (pc pe : Nat) (S : ST) : Prop := ∀ (K : En → Mm → Prop) (ρ : En) (M : Mm), S K Rt ρ M → (∀ ρ2 M2, K ρ2 M2 → G pe [] ρ2 M2) → G pc [] ρ M
section AT
variable {own : String} {cc : ByteArray} {nL : Nat} {mn : String} {R : Room} {ret : Option FieldType} {nt L : Nat} {xs : Nat → Int} {Rt : Int → Mm → Prop} {G : Gt} {pc pd d : Nat} {p1 p2 p3 p4 p5 : Nat}
theorem I_iconst (hG : Mach own cc nL mn R ret nt L xs Rt G) {n z : Int} (hd : decode cc pc = .ok (.iconst n, 1)) (hv : Int32.ofInt n = zI z) (hz : inR z) : IAt G pc (pc + 1) d (iC z) := fun K ρ M sv _ h k => G_iconst hG hd hv hz (k z M h)
theorem I_bipush (hG : Mach own cc nL mn R ret nt L xs Rt G) {n z : Int} (hd : decode cc pc = .ok (.bipush n, 2)) (hv : (Int8.ofInt n).toInt32 = zI z) (hz : inR z) : IAt G pc (pc + 2) d (iC z) := fun K ρ M sv _ h k => G_bipush hG hd hv hz (k z M h)
theorem I_sipush (hG : Mach own cc nL mn R ret nt L xs Rt G) {n z : Int} (hd : decode cc pc = .ok (.sipush n, 3)) (hv : (Int16.ofInt n).toInt32 = zI z) (hz : inR z) : IAt G pc (pc + 3) d (iC z) := fun K ρ M sv _ h k => G_sipush hG hd hv hz (k z M h)
theorem I_iload (hG : Mach own cc nL mn R ret nt L xs Rt G) {i : Nat} (hd : decode cc pc = .ok (.iload i, 2)) (hi : i < nL) : IAt G pc (pc + 2) d (iL i) := by
  intro K ρ M sv _ h k
  unfold iL at h
  split at h
  · rename_i z e
    exact G_iload hG (ins := .nop) (ln := 0) hd hi e (k z M h)
  · exact h.elim
theorem I_iload_n (hG : Mach own cc nL mn R ret nt L xs Rt G) {j : Fin 4} {i : Nat} (hd : decode cc pc = .ok (.iload_n j, 1)) (hj : (j : Nat) = i) (hi : i < nL) : IAt G pc (pc + 1) d (iL i) := by
  intro K ρ M sv _ h k
  unfold iL at h
  split at h
  · rename_i z e
    exact G_iload_n hG hd hj hi e (k z M h)
  · exact h.elim
theorem R_aload (hG : Mach own cc nL mn R ret nt L xs Rt G) {i : Nat} (hd : decode cc pc = .ok (.aload i, 2)) (hi : i < nL) : RAt G pc (pc + 2) d (rL i) := by
  intro K ρ M sv _ h k
  unfold rL at h
  split at h
  · rename_i z e
    exact G_aload hG hd hi e (k (some z) M h)
  · exact h.elim
theorem R_aload_n (hG : Mach own cc nL mn R ret nt L xs Rt G) {j : Fin 4} {i : Nat} (hd : decode cc pc = .ok (.aload_n j, 1)) (hj : (j : Nat) = i) (hi : i < nL) : RAt G pc (pc + 1) d (rL i) := by
  intro K ρ M sv _ h k
  unfold rL at h
  split at h
  · rename_i z e
    exact G_aload_n hG hd hj hi e (k (some z) M h)
  · exact h.elim
theorem I_getf (hG : Mach own cc nL mn R ret nt L xs Rt G) {idx ci j : Nat} {r : RE} (F : Fok own idx ci j false) (hr : RAt G pc p1 d r) (hd : decode cc p1 = .ok (.getfield idx, 3)) : IAt G pc (p1 + 3) d (iF ci j r) := by
  intro K ρ M sv hs h k
  refine hr _ ρ M sv hs h (fun o M2 h2 => ?_)
  cases o with
  | none => exact h2.elim
  | some q =>
    obtain ⟨⟨w, hw⟩, h3⟩ := h2
    exact G_getI hG F hw hd (k _ _ h3)
theorem R_getf (hG : Mach own cc nL mn R ret nt L xs Rt G) {idx ci j : Nat} {r : RE} (F : Fok own idx ci j true) (hr : RAt G pc p1 d r) (hd : decode cc p1 = .ok (.getfield idx, 3)) : RAt G pc (p1 + 3) d (rF ci j r) := by
  intro K ρ M sv hs h k
  refine hr _ ρ M sv hs h (fun o M2 h2 => ?_)
  cases o with
  | none => exact h2.elim
  | some q =>
    obtain ⟨⟨w, hw⟩, h3⟩ := h2
    exact G_getR hG F hw hd (k _ _ h3)
theorem I_iald (hG : Mach own cc nL mn R ret nt L xs Rt G) {r : RE} {i : IE} (hr : RAt G pc p1 d r) (hi : IAt G p1 p2 (d + 1) i) (hd : decode cc p2 = .ok (.iaload, 1)) : IAt G pc (p2 + 1) d (iA r i) := by
  intro K ρ M sv hs h k
  refine hr _ ρ M sv hs h (fun o M2 h2 => ?_)
  refine hi _ ρ M2 _ (by simp; omega) h2 (fun x M3 h3 => ?_)
  cases o with
  | none => exact h3.elim
  | some q =>
    obtain ⟨n, hw, h0, h1, h4⟩ := h3
    exact G_iald hG hw h0 h1 hd (k _ _ h4)
theorem I_cald (hG : Mach own cc nL mn R ret nt L xs Rt G) {r : RE} {i : IE} (hr : RAt G pc p1 d r) (hi : IAt G p1 p2 (d + 1) i) (hd : decode cc p2 = .ok (.caload, 1)) : IAt G pc (p2 + 1) d (iAc r i) := by
  intro K ρ M sv hs h k
  refine hr _ ρ M sv hs h (fun o M2 h2 => ?_)
  refine hi _ ρ M2 _ (by simp; omega) h2 (fun x M3 h3 => ?_)
  cases o with
  | none => exact h3.elim
  | some q =>
    obtain ⟨n, hw, h0, h1, h4⟩ := h3
    exact G_cald hG hw h0 h1 hd (k _ _ h4)
theorem R_aald (hG : Mach own cc nL mn R ret nt L xs Rt G) {r : RE} {i : IE} (hr : RAt G pc p1 d r) (hi : IAt G p1 p2 (d + 1) i) (hd : decode cc p2 = .ok (.aaload, 1)) : RAt G pc (p2 + 1) d (rA r i) := by
  intro K ρ M sv hs h k
  refine hr _ ρ M sv hs h (fun o M2 h2 => ?_)
  refine hi _ ρ M2 _ (by simp; omega) h2 (fun x M3 h3 => ?_)
  cases o with
  | none => exact h3.elim
  | some q =>
    obtain ⟨n, hw, h0, h1, h4⟩ := h3
    exact G_aald hG hw h0 h1 hd (k _ _ h4)
theorem I_alen (hG : Mach own cc nL mn R ret nt L xs Rt G) {r : RE} (hr : RAt G pc p1 d r) (hd : decode cc p1 = .ok (.arraylength, 1)) : IAt G pc (p1 + 1) d (iLen r) := by
  intro K ρ M sv hs h k
  refine hr _ ρ M sv hs h (fun o M2 h2 => ?_)
  cases o with
  | none => exact h2.elim
  | some q =>
    obtain ⟨n, hw, hn, h3⟩ := h2
    exact G_alen hG hw hn hd (k _ _ h3)
theorem I_tabS (hG : Mach own cc nL mn R ret nt L xs Rt G) {t idx : Nat} {i : IE} (ht : t < 3) (hnt : t < nt) (hlk : Cond.fieldLink own idx "SungSlides" (stN t) "[I" ∈ gtb) (hd0 : decode cc pc = .ok (.getstatic idx, 3)) (hi : IAt G (pc + 3) p2 (d + 1) i) (hd : decode cc p2 = .ok (.iaload, 1)) : IAt G pc (p2 + 1) d (iT L xs t i) := by
  intro K ρ M sv hs h k
  refine G_gets hG ht hlk hd0 ?_
  refine hi _ ρ M _ (by simp; omega) h (fun x M3 h3 => ?_)
  obtain ⟨h0, h1, h4⟩ := h3
  exact G_tld hG hnt h0 h1 hd (k _ _ h4)
theorem I_iadd (hG : Mach own cc nL mn R ret nt L xs Rt G) {a b : IE} (ha : IAt G pc p1 d a) (hb : IAt G p1 p2 (d + 1) b) (hd : decode cc p2 = .ok (.iadd, 1)) : IAt G pc (p2 + 1) d (iAdd a b) := by
  intro K ρ M sv hs h k
  refine ha _ ρ M sv hs h (fun x M2 h2 => ?_)
  refine hb _ ρ M2 _ (by simp; omega) h2 (fun y M3 h3 => ?_)
  obtain ⟨hz, h4⟩ := h3
  exact G_iadd hG hd hz (k _ _ h4)
theorem I_isub (hG : Mach own cc nL mn R ret nt L xs Rt G) {a b : IE} (ha : IAt G pc p1 d a) (hb : IAt G p1 p2 (d + 1) b) (hd : decode cc p2 = .ok (.isub, 1)) : IAt G pc (p2 + 1) d (iSub a b) := by
  intro K ρ M sv hs h k
  refine ha _ ρ M sv hs h (fun x M2 h2 => ?_)
  refine hb _ ρ M2 _ (by simp; omega) h2 (fun y M3 h3 => ?_)
  obtain ⟨hz, h4⟩ := h3
  exact G_isub hG hd hz (k _ _ h4)
theorem I_imul (hG : Mach own cc nL mn R ret nt L xs Rt G) {a b : IE} (ha : IAt G pc p1 d a) (hb : IAt G p1 p2 (d + 1) b) (hd : decode cc p2 = .ok (.imul, 1)) : IAt G pc (p2 + 1) d (iMul a b) := by
  intro K ρ M sv hs h k
  refine ha _ ρ M sv hs h (fun x M2 h2 => ?_)
  refine hb _ ρ M2 _ (by simp; omega) h2 (fun y M3 h3 => ?_)
  obtain ⟨hz, h4⟩ := h3
  exact G_imul hG hd hz (k _ _ h4)
theorem I_idiv (hG : Mach own cc nL mn R ret nt L xs Rt G) {a b : IE} (ha : IAt G pc p1 d a) (hb : IAt G p1 p2 (d + 1) b) (hd : decode cc p2 = .ok (.idiv, 1)) : IAt G pc (p2 + 1) d (iDiv a b) := by
  intro K ρ M sv hs h k
  refine ha _ ρ M sv hs h (fun x M2 h2 => ?_)
  refine hb _ ρ M2 _ (by simp; omega) h2 (fun y M3 h3 => ?_)
  obtain ⟨h0, hz, h4⟩ := h3
  exact G_idiv hG hd h0 hz (k _ _ h4)
theorem I_irem (hG : Mach own cc nL mn R ret nt L xs Rt G) {a b : IE} (ha : IAt G pc p1 d a) (hb : IAt G p1 p2 (d + 1) b) (hd : decode cc p2 = .ok (.irem, 1)) : IAt G pc (p2 + 1) d (iRem a b) := by
  intro K ρ M sv hs h k
  refine ha _ ρ M sv hs h (fun x M2 h2 => ?_)
  refine hb _ ρ M2 _ (by simp; omega) h2 (fun y M3 h3 => ?_)
  obtain ⟨h0, hz, h4⟩ := h3
  exact G_irem hG hd h0 hz (k _ _ h4)
theorem I_sc (hG : Mach own cc nL mn R ret nt L xs Rt G) {i : IE} (h4 : 3 < nt) (hd0 : decode cc pc = .ok (.aload_n 0, 1)) (h0 : 0 < nL) (hi : IAt G (pc + 1) p2 (d + 1) i) (hd : decode cc p2 = .ok (.iaload, 1)) : IAt G pc (p2 + 1) d (iSc L xs i) := by
  intro K ρ M sv hs h k
  refine G_aload_n hG hd0 rfl h0 h.1 ?_
  refine hi _ ρ M _ (by simp; omega) h.2 (fun x M3 h3 => ?_)
  obtain ⟨h0, h1, h4'⟩ := h3
  exact G_tld (t := 3) hG h4 h0 h1 hd (k _ _ h4')
theorem I_scl (hG : Mach own cc nL mn R ret nt L xs Rt G) (h4 : 3 < nt) (hd0 : decode cc pc = .ok (.aload_n 0, 1)) (h0 : 0 < nL) (hd : decode cc (pc + 1) = .ok (.arraylength, 1)) : IAt G pc (pc + 1 + 1) d (iScL L) := by
  intro K ρ M sv hs h k
  refine G_aload_n hG hd0 rfl h0 h.1 ?_
  exact G_tlen (t := 3) hG h4 h.2.1 hd (k _ _ h.2.2)
theorem I_ineg (hG : Mach own cc nL mn R ret nt L xs Rt G) {a : IE} (ha : IAt G pc p1 d a) (hd : decode cc p1 = .ok (.ineg, 1)) : IAt G pc (p1 + 1) d (iNeg a) := fun K ρ M sv hs h k => ha _ ρ M sv hs h (fun x M2 h2 => G_ineg hG hd h2.1 (k _ _ h2.2))
theorem I_i2c (hG : Mach own cc nL mn R ret nt L xs Rt G) {a : IE} (ha : IAt G pc p1 d a) (hd : decode cc p1 = .ok (.i2c, 1)) : IAt G pc (p1 + 1) d (iCh a) := fun K ρ M sv hs h k => ha _ ρ M sv hs h (fun x M2 h2 => G_i2c hG hd (k _ _ h2))
theorem I_and31 (hG : Mach own cc nL mn R ret nt L xs Rt G) {a : IE} {n : Int} (ha : IAt G pc p1 d a) (hd0 : decode cc p1 = .ok (.bipush n, 2)) (hv : (Int8.ofInt n).toInt32 = zI 31) (hd : decode cc (p1 + 2) = .ok (.iand, 1)) : IAt G pc (p1 + 2 + 1) d (iAnd31 a) := fun K ρ M sv hs h k => ha _ ρ M sv hs h (fun x M2 h2 => G_bipush hG hd0 hv ⟨by decide, by decide⟩ (G_iand hG hd (k _ _ h2)))
theorem I_tern (hG : Mach own cc nL mn R ret nt L xs Rt G) {c : CE} {a b : IE} {off : Int} (hc : CAt G pc p1 p3 d c) (ha : IAt G p1 p2 d a) (hd : decode cc p2 = .ok (.goto off, 3)) (ht : (p2 : Int) + off = (p4 : Int)) (hb : IAt G p3 p4 d b) : IAt G pc p4 d (iQ c a b) := by
  intro K ρ M sv hs h k
  refine hc _ _ ρ M sv hs h (fun M2 h2 => ?_) (fun M2 h2 => ?_)
  · exact ha _ ρ M2 sv hs h2 (fun x M3 h3 => G_goto hG hd ht (k _ _ h3))
  · exact hb _ ρ M2 sv hs h2 k
theorem I_goto (hG : Mach own cc nL mn R ret nt L xs Rt G) {a : IE} {off : Int} (ha : IAt G pc p1 d a) (hd : decode cc p1 = .ok (.goto off, 3)) (ht : (p1 : Int) + off = (p2 : Int)) : IAt G pc p2 d a := fun K ρ M sv hs h k => ha _ ρ M sv hs h (fun x M2 h2 => G_goto hG hd ht (k _ _ h2))
theorem I_ternX (hG : Mach own cc nL mn R ret nt L xs Rt G) {c : CE} {a b : IE} (hc : CAt G pc p1 p3 d c) (ha : IAt G p1 p4 d a) (hb : IAt G p3 p4 d b) : IAt G pc p4 d (iQ c a b) := fun K ρ M sv hs h k => hc _ _ ρ M sv hs h (fun M2 h2 => ha _ ρ M2 sv hs h2 k) (fun M2 h2 => hb _ ρ M2 sv hs h2 k)
theorem I_mmax (hG : Mach own cc nL mn R ret nt L xs Rt G) {a b : IE} {idx : Nat} (ha : IAt G pc p1 d a) (hb : IAt G p1 p2 (d + 1) b) (hk : ∀ w ∈ ([.methodLink own idx Lib.Math.max.name, .static Lib.Math.max.name, .initialized "java/lang/Math", .code Lib.Math.max.name Lib.Math.max.code 2 (some .int)] : List Cond), w ∈ gtb) (hR : 1 ≤ R.frames ∧ d + 13 ≤ R.locals) (hd : decode cc p2 = .ok (.invokestatic idx, 3)) : IAt G pc (p2 + 3) d (iMax a b) := by
  intro K ρ M sv hs h k
  refine ha _ ρ M sv hs h (fun x M2 h2 => ?_)
  refine hb _ ρ M2 _ (by simp; omega) h2 (fun y M3 h3 => ?_)
  exact G_mmax hG hk ⟨hR.1, by omega⟩ hd (k _ _ h3)
theorem I_mmin (hG : Mach own cc nL mn R ret nt L xs Rt G) {a b : IE} {idx : Nat} (ha : IAt G pc p1 d a) (hb : IAt G p1 p2 (d + 1) b) (hk : ∀ w ∈ ([.methodLink own idx Lib.Math.min.name, .static Lib.Math.min.name, .initialized "java/lang/Math", .code Lib.Math.min.name Lib.Math.min.code 2 (some .int)] : List Cond), w ∈ gtb) (hR : 1 ≤ R.frames ∧ d + 13 ≤ R.locals) (hd : decode cc p2 = .ok (.invokestatic idx, 3)) : IAt G pc (p2 + 3) d (iMin a b) := by
  intro K ρ M sv hs h k
  refine ha _ ρ M sv hs h (fun x M2 h2 => ?_)
  refine hb _ ρ M2 _ (by simp; omega) h2 (fun y M3 h3 => ?_)
  exact G_mmin hG hk ⟨hR.1, by omega⟩ hd (k _ _ h3)
theorem I_mabs (hG : Mach own cc nL mn R ret nt L xs Rt G) {a : IE} {idx : Nat} (ha : IAt G pc p1 d a) (hk : ∀ w ∈ ([.methodLink own idx Lib.Math.abs.name, .static Lib.Math.abs.name, .initialized "java/lang/Math", .code Lib.Math.abs.name Lib.Math.abs.code 1 (some .int)] : List Cond), w ∈ gtb) (hR : 1 ≤ R.frames ∧ d + 13 ≤ R.locals) (hd : decode cc p1 = .ok (.invokestatic idx, 3)) : IAt G pc (p1 + 3) d (iAbs a) := by
  intro K ρ M sv hs h k
  refine ha _ ρ M sv hs h (fun x M2 h2 => ?_)
  exact G_mabs hG hk ⟨hR.1, by omega⟩ h2.1 hd (k _ _ h2.2)
theorem A_nil (hG : Mach own cc nL mn R ret nt L xs Rt G)  : AAt G pc pc d 0 aN := fun K ρ M sv _ h k => k [] M rfl h
theorem A_int (hG : Mach own cc nL mn R ret nt L xs Rt G) {n : Nat} {e : IE} {a : AE} (he : IAt G pc p1 d e) (ha : AAt G p1 p2 (d + 1) n a) : AAt G pc p2 d (n + 1) (aI e a) := by
  intro K ρ M sv hs h k
  refine he _ ρ M sv hs h (fun x M2 h2 => ?_)
  refine ha _ ρ M2 _ (by simp; omega) h2 (fun l M3 hl h3 => ?_)
  have := k (.inl x :: l) M3 (by simp [hl]) h3
  simpa using this
theorem A_ref (hG : Mach own cc nL mn R ret nt L xs Rt G) {n : Nat} {e : RE} {a : AE} (he : RAt G pc p1 d e) (ha : AAt G p1 p2 (d + 1) n a) : AAt G pc p2 d (n + 1) (aR e a) := by
  intro K ρ M sv hs h k
  refine he _ ρ M sv hs h (fun x M2 h2 => ?_)
  refine ha _ ρ M2 _ (by simp; omega) h2 (fun l M3 hl h3 => ?_)
  have := k (.inr x :: l) M3 (by simp [hl]) h3
  simpa using this
theorem I_callV (hG : Mach own cc nL mn R ret nt L xs Rt G) {idx n maxL : Nat} {y : MethodName} {cy : ByteArray} {rm : Room} {Me : Mt} {rt : FieldType} {ci N : Nat} {TT : u_T} {r : RE} {a : AE} (hM : MOkI y cy maxL rt rm Me) (hk : CkV own idx y cy maxL (some rt) n) (h0 : rm.cells = 0 ∧ rm.slots = 0) (hci : ci < 8) (hcl : vwCl[ci]? = some (y.cls, TT, N)) (hR : Rok rm R maxL) (hd8 : d ≤ 8) (hr : RAt G pc p1 d r) (ha : AAt G p1 p2 (d + 1) n a) (hd : decode cc p2 = .ok (.invokevirtual idx, 3)) : IAt G pc (p2 + 3) d (iCallV ci Me r a) := by
  intro K ρ M sv hs h k
  refine hr _ ρ M sv hs h (fun o M2 h2 => ?_)
  refine ha _ ρ M2 _ (by simp; omega) h2 (fun l M3 hl h3 => ?_)
  cases o with
  | none => exact h3.elim
  | some q =>
    obtain ⟨⟨w, hw⟩, h4⟩ := h3
    rw [show l.reverse ++ (Sum.inr (some q) :: sv) = (Sum.inr (some q) :: l).reverse ++ sv by simp]
    exact G_callVI hG hM hR (by simp [hl]) (by omega) hd hk h0 hci hcl rfl hw h4 k
theorem I_callS (hG : Mach own cc nL mn R ret nt L xs Rt G) {idx n maxL : Nat} {y : MethodName} {cy : ByteArray} {rm : Room} {Me : Mt} {rt : FieldType} {a : AE} (hM : MOkI y cy maxL rt rm Me) (hk : CkS own idx y cy maxL (some rt) n) (h0 : rm.cells = 0 ∧ rm.slots = 0) (hR : Rok rm R maxL) (hd8 : d ≤ 8) (ha : AAt G pc p2 d n a) (hd : decode cc p2 = .ok (.invokestatic idx, 3)) : IAt G pc (p2 + 3) d (iCallS Me a) := fun K ρ M sv hs h k => ha _ ρ M sv hs h (fun l M3 hl h3 => G_callSI hG hM hR hl (by omega) hd hk h0 h3 k)
theorem I_callN (hG : Mach own cc nL mn R ret nt L xs Rt G) {idx n maxL : Nat} {y : MethodName} {cy : ByteArray} {rm : Room} {Me : Mt} {rt : FieldType} {host : String} {a : AE} (hM : MOkI y cy maxL rt rm Me) (hk : CkN own idx host y cy maxL (some rt) n) (h0 : rm.cells = 0 ∧ rm.slots = 0) (hR : Rok rm R maxL) (hd8 : d ≤ 8) (ha : AAt G pc p2 d n a) (hd : decode cc p2 = .ok (.invokestatic idx, 3)) : IAt G pc (p2 + 3) d (iCallS Me a) := fun K ρ M sv hs h k => ha _ ρ M sv hs h (fun l M3 hl h3 => G_callNI hG hM hR hl (by omega) hd hk h0 h3 k)
theorem S_callV (hG : Mach own cc nL mn R ret nt L xs Rt G) {idx n maxL : Nat} {y : MethodName} {cy : ByteArray} {rm : Room} {Me : Mt} {ci N : Nat} {TT : u_T} {r : RE} {a : AE} (hM : MOkV y cy maxL rm Me) (hk : CkV own idx y cy maxL none n) (h0 : rm.cells = 0 ∧ rm.slots = 0) (hci : ci < 8) (hcl : vwCl[ci]? = some (y.cls, TT, N)) (hR : Rok rm R maxL) (hr : RAt G pc p1 0 r) (ha : AAt G p1 p2 1 n a) (hd : decode cc p2 = .ok (.invokevirtual idx, 3)) : SAt G Rt pc (p2 + 3) (sCallV ci Me r a) := by
  intro K ρ M h k
  refine hr _ ρ M [] (Nat.zero_le _) h (fun o M2 h2 => ?_)
  refine ha _ ρ M2 _ (by simp) h2 (fun l M3 hl h3 => ?_)
  cases o with
  | none => exact h3.elim
  | some q =>
    obtain ⟨⟨w, hw⟩, h4⟩ := h3
    rw [show l.reverse ++ (Sum.inr (some q) :: []) = (Sum.inr (some q) :: l).reverse ++ [] by simp]
    exact G_callVV hG hM hR (by simp [hl]) (by simp) hd hk h0 hci hcl rfl hw h4 (fun _ M4 h5 => k _ _ h5)
theorem S_callS (hG : Mach own cc nL mn R ret nt L xs Rt G) {idx n maxL : Nat} {y : MethodName} {cy : ByteArray} {rm : Room} {Me : Mt} {a : AE} (hM : MOkV y cy maxL rm Me) (hk : CkS own idx y cy maxL none n) (h0 : rm.cells = 0 ∧ rm.slots = 0) (hR : Rok rm R maxL) (ha : AAt G pc p2 0 n a) (hd : decode cc p2 = .ok (.invokestatic idx, 3)) : SAt G Rt pc (p2 + 3) (sCallS Me a) := by
  intro K ρ M h k
  refine ha _ ρ M [] (Nat.zero_le _) h (fun l M3 hl h3 => ?_)
  exact G_callSV hG hM hR hl (by simp) hd hk h0 h3 (fun _ M4 h5 => k _ _ h5)
theorem R_new (hG : Mach own cc nL mn R ret nt L xs Rt G) {idx n maxL : Nat} {y : MethodName} {cy : ByteArray} {rm : Room} {Me : Mt} {idx0 ci : Nat} {a : AE} (F : Nok own idx0 ci) (hci : ci < 8) (hM : MOkV y cy maxL rm Me) (hk : CkI own idx y cy maxL n) (hR : Rok rm R maxL) (hd8 : d ≤ 7) (hd0 : decode cc pc = .ok (.new idx0, 3)) (hd1 : decode cc (pc + 3) = .ok (.dup, 1)) (ha : AAt G (pc + 3 + 1) p2 (d + 2) n a) (hd : decode cc p2 = .ok (.invokespecial idx, 3)) : RAt G pc (p2 + 3) d (rNew ci rm.cells rm.slots Me a) := by
  intro K ρ M sv hs h k
  obtain ⟨⟨hc1, hc2, hc3⟩, h⟩ := h
  refine G_new hG F ⟨hc1, by rw [ssz, if_pos (show ci < 8 from hci)] at hc2; exact hc2⟩ hc3 hd0 ?_
  refine G_dup hG hd1 ?_
  refine ha _ ρ _ _ (by simp; omega) h (fun l M3 hl h3 => ?_)
  obtain ⟨hcap, h4⟩ := h3
  rw [show l.reverse ++ (Sum.inr (some M.1.length) :: Sum.inr (some M.1.length) :: sv) = (Sum.inr (some M.1.length) :: l).reverse ++ (Sum.inr (some M.1.length) :: sv) by simp]
  exact G_callI hG hM hR (by simp [hl]) (by simp; omega) hd hk hcap rfl h4 (fun _ M4 h5 => k _ _ h5)
theorem R_newN (hG : Mach own cc nL mn R ret nt L xs Rt G) {idx n maxL : Nat} {y : MethodName} {cy : ByteArray} {rm : Room} {Me : Mt} {host : String} {idx0 ci : Nat} {a : AE} (F : Nok own idx0 ci) (hci : ci < 8) (hM : MOkV y cy maxL rm Me) (hk : CkIN own idx host y cy maxL n) (hR : Rok rm R maxL) (hd8 : d ≤ 7) (hd0 : decode cc pc = .ok (.new idx0, 3)) (hd1 : decode cc (pc + 3) = .ok (.dup, 1)) (ha : AAt G (pc + 3 + 1) p2 (d + 2) n a) (hd : decode cc p2 = .ok (.invokespecial idx, 3)) : RAt G pc (p2 + 3) d (rNew ci rm.cells rm.slots Me a) := by
  intro K ρ M sv hs h k
  obtain ⟨⟨hc1, hc2, hc3⟩, h⟩ := h
  refine G_new hG F ⟨hc1, by rw [ssz, if_pos (show ci < 8 from hci)] at hc2; exact hc2⟩ hc3 hd0 ?_
  refine G_dup hG hd1 ?_
  refine ha _ ρ _ _ (by simp; omega) h (fun l M3 hl h3 => ?_)
  obtain ⟨hcap, h4⟩ := h3
  rw [show l.reverse ++ (Sum.inr (some M.1.length) :: Sum.inr (some M.1.length) :: sv) = (Sum.inr (some M.1.length) :: l).reverse ++ (Sum.inr (some M.1.length) :: sv) by simp]
  exact G_callIN hG hM hR (by simp [hl]) (by simp; omega) hd hk hcap rfl h4 (fun _ M4 h5 => k _ _ h5)
theorem R_newI (hG : Mach own cc nL mn R ret nt L xs Rt G) {e : IE} (hac : Cond.arrayClass .int ∈ gtb) (he : IAt G pc p1 d e) (hd : decode cc p1 = .ok (.newarray .int, 2)) : RAt G pc (p1 + 2) d (rNewI e) := by
  intro K ρ M sv hs h k
  refine he _ ρ M sv hs h (fun z M2 h2 => ?_)
  obtain ⟨n, hz, hn, ⟨hc1, hc2, hc3⟩, h3⟩ := h2
  exact G_newI hG hz hn hac ⟨hc1, hc2⟩ hc3 hd (k _ _ h3)
theorem R_newC (hG : Mach own cc nL mn R ret nt L xs Rt G) {e : IE} (hac : Cond.arrayClass .char ∈ gtb) (he : IAt G pc p1 d e) (hd : decode cc p1 = .ok (.newarray .char, 2)) : RAt G pc (p1 + 2) d (rNewC e) := by
  intro K ρ M sv hs h k
  refine he _ ρ M sv hs h (fun z M2 h2 => ?_)
  obtain ⟨n, hz, hn, ⟨hc1, hc2, hc3⟩, h3⟩ := h2
  exact G_newC hG hz hn hac ⟨hc1, hc2⟩ hc3 hd (k _ _ h3)
theorem R_newR (hG : Mach own cc nL mn R ret nt L xs Rt G) {e : IE} {idx : Nat} (hac : Cond.classLink own idx "SungSlides$State" ∈ gtb) (he : IAt G pc p1 d e) (hd : decode cc p1 = .ok (.anewarray idx, 3)) : RAt G pc (p1 + 3) d (rNewR e) := by
  intro K ρ M sv hs h k
  refine he _ ρ M sv hs h (fun z M2 h2 => ?_)
  obtain ⟨n, hz, hn, ⟨hc1, hc2, hc3⟩, h3⟩ := h2
  exact G_newR hG hz hn hac ⟨hc1, hc2⟩ hc3 hd (k _ _ h3)
theorem C_eq_T (hG : Mach own cc nL mn R ret nt L xs Rt G) {a b : IE} {off : Int} {tgt : Nat} (ha : IAt G pc p1 d a) (hb : IAt G p1 p2 (d + 1) b) (hd : decode cc p2 = .ok (.if_icmp .eq off, 3)) (ht : (p2 : Int) + off = (tgt : Int)) : CAt G pc tgt (p2 + 3) d (cEq a b) := by
  intro KT KF ρ M sv hs h kT kF
  refine ha _ ρ M sv hs h (fun x M2 h2 => ?_)
  refine hb _ ρ M2 _ (by simp; omega) h2 (fun y M3 h3 => ?_)
  exact G_icmp_eq hG hd ht (fun hc => kT _ (by rw [if_pos hc] at h3; exact h3)) (fun hc => kF _ (by rw [if_neg hc] at h3; exact h3))
theorem C_eq_T0 (hG : Mach own cc nL mn R ret nt L xs Rt G) {a : IE} {off : Int} {tgt : Nat} (ha : IAt G pc p1 d a) (hd : decode cc p1 = .ok (.ifCond .eq off, 3)) (ht : (p1 : Int) + off = (tgt : Int)) : CAt G pc tgt (p1 + 3) d (cEq a (iC 0)) := by
  intro KT KF ρ M sv hs h kT kF
  refine ha _ ρ M sv hs h (fun x M2 h3 => ?_)
  simp only [iC] at h3
  exact G_if_eq hG hd ht (fun hc => kT _ (by rw [if_pos hc] at h3; exact h3)) (fun hc => kF _ (by rw [if_neg hc] at h3; exact h3))
theorem C_eq_F (hG : Mach own cc nL mn R ret nt L xs Rt G) {a b : IE} {off : Int} {tgt : Nat} (ha : IAt G pc p1 d a) (hb : IAt G p1 p2 (d + 1) b) (hd : decode cc p2 = .ok (.if_icmp .ne off, 3)) (ht : (p2 : Int) + off = (tgt : Int)) : CAt G pc (p2 + 3) tgt d (cEq a b) := by
  intro KT KF ρ M sv hs h kT kF
  refine ha _ ρ M sv hs h (fun x M2 h2 => ?_)
  refine hb _ ρ M2 _ (by simp; omega) h2 (fun y M3 h3 => ?_)
  exact G_icmp_ne hG hd ht (fun hc => kF _ (by rw [if_neg hc] at h3; exact h3)) (fun hc => kT _ (by rw [if_pos (Decidable.not_not.mp hc)] at h3; exact h3))
theorem C_eq_F0 (hG : Mach own cc nL mn R ret nt L xs Rt G) {a : IE} {off : Int} {tgt : Nat} (ha : IAt G pc p1 d a) (hd : decode cc p1 = .ok (.ifCond .ne off, 3)) (ht : (p1 : Int) + off = (tgt : Int)) : CAt G pc (p1 + 3) tgt d (cEq a (iC 0)) := by
  intro KT KF ρ M sv hs h kT kF
  refine ha _ ρ M sv hs h (fun x M2 h3 => ?_)
  simp only [iC] at h3
  exact G_if_ne hG hd ht (fun hc => kF _ (by rw [if_neg hc] at h3; exact h3)) (fun hc => kT _ (by rw [if_pos (Decidable.not_not.mp hc)] at h3; exact h3))
theorem C_ne_T (hG : Mach own cc nL mn R ret nt L xs Rt G) {a b : IE} {off : Int} {tgt : Nat} (ha : IAt G pc p1 d a) (hb : IAt G p1 p2 (d + 1) b) (hd : decode cc p2 = .ok (.if_icmp .ne off, 3)) (ht : (p2 : Int) + off = (tgt : Int)) : CAt G pc tgt (p2 + 3) d (cNe a b) := by
  intro KT KF ρ M sv hs h kT kF
  refine ha _ ρ M sv hs h (fun x M2 h2 => ?_)
  refine hb _ ρ M2 _ (by simp; omega) h2 (fun y M3 h3 => ?_)
  exact G_icmp_ne hG hd ht (fun hc => kT _ (by rw [if_pos hc] at h3; exact h3)) (fun hc => kF _ (by rw [if_neg hc] at h3; exact h3))
theorem C_ne_T0 (hG : Mach own cc nL mn R ret nt L xs Rt G) {a : IE} {off : Int} {tgt : Nat} (ha : IAt G pc p1 d a) (hd : decode cc p1 = .ok (.ifCond .ne off, 3)) (ht : (p1 : Int) + off = (tgt : Int)) : CAt G pc tgt (p1 + 3) d (cNe a (iC 0)) := by
  intro KT KF ρ M sv hs h kT kF
  refine ha _ ρ M sv hs h (fun x M2 h3 => ?_)
  simp only [iC] at h3
  exact G_if_ne hG hd ht (fun hc => kT _ (by rw [if_pos hc] at h3; exact h3)) (fun hc => kF _ (by rw [if_neg hc] at h3; exact h3))
theorem C_ne_F (hG : Mach own cc nL mn R ret nt L xs Rt G) {a b : IE} {off : Int} {tgt : Nat} (ha : IAt G pc p1 d a) (hb : IAt G p1 p2 (d + 1) b) (hd : decode cc p2 = .ok (.if_icmp .eq off, 3)) (ht : (p2 : Int) + off = (tgt : Int)) : CAt G pc (p2 + 3) tgt d (cNe a b) := by
  intro KT KF ρ M sv hs h kT kF
  refine ha _ ρ M sv hs h (fun x M2 h2 => ?_)
  refine hb _ ρ M2 _ (by simp; omega) h2 (fun y M3 h3 => ?_)
  exact G_icmp_eq hG hd ht (fun hc => kF _ (by rw [if_neg (fun q => q hc)] at h3; exact h3)) (fun hc => kT _ (by rw [if_pos hc] at h3; exact h3))
theorem C_ne_F0 (hG : Mach own cc nL mn R ret nt L xs Rt G) {a : IE} {off : Int} {tgt : Nat} (ha : IAt G pc p1 d a) (hd : decode cc p1 = .ok (.ifCond .eq off, 3)) (ht : (p1 : Int) + off = (tgt : Int)) : CAt G pc (p1 + 3) tgt d (cNe a (iC 0)) := by
  intro KT KF ρ M sv hs h kT kF
  refine ha _ ρ M sv hs h (fun x M2 h3 => ?_)
  simp only [iC] at h3
  exact G_if_eq hG hd ht (fun hc => kF _ (by rw [if_neg (fun q => q hc)] at h3; exact h3)) (fun hc => kT _ (by rw [if_pos hc] at h3; exact h3))
theorem C_lt_T (hG : Mach own cc nL mn R ret nt L xs Rt G) {a b : IE} {off : Int} {tgt : Nat} (ha : IAt G pc p1 d a) (hb : IAt G p1 p2 (d + 1) b) (hd : decode cc p2 = .ok (.if_icmp .lt off, 3)) (ht : (p2 : Int) + off = (tgt : Int)) : CAt G pc tgt (p2 + 3) d (cLt a b) := by
  intro KT KF ρ M sv hs h kT kF
  refine ha _ ρ M sv hs h (fun x M2 h2 => ?_)
  refine hb _ ρ M2 _ (by simp; omega) h2 (fun y M3 h3 => ?_)
  exact G_icmp_lt hG hd ht (fun hc => kT _ (by rw [if_pos hc] at h3; exact h3)) (fun hc => kF _ (by rw [if_neg hc] at h3; exact h3))
theorem C_lt_T0 (hG : Mach own cc nL mn R ret nt L xs Rt G) {a : IE} {off : Int} {tgt : Nat} (ha : IAt G pc p1 d a) (hd : decode cc p1 = .ok (.ifCond .lt off, 3)) (ht : (p1 : Int) + off = (tgt : Int)) : CAt G pc tgt (p1 + 3) d (cLt a (iC 0)) := by
  intro KT KF ρ M sv hs h kT kF
  refine ha _ ρ M sv hs h (fun x M2 h3 => ?_)
  simp only [iC] at h3
  exact G_if_lt hG hd ht (fun hc => kT _ (by rw [if_pos hc] at h3; exact h3)) (fun hc => kF _ (by rw [if_neg hc] at h3; exact h3))
theorem C_lt_F (hG : Mach own cc nL mn R ret nt L xs Rt G) {a b : IE} {off : Int} {tgt : Nat} (ha : IAt G pc p1 d a) (hb : IAt G p1 p2 (d + 1) b) (hd : decode cc p2 = .ok (.if_icmp .ge off, 3)) (ht : (p2 : Int) + off = (tgt : Int)) : CAt G pc (p2 + 3) tgt d (cLt a b) := by
  intro KT KF ρ M sv hs h kT kF
  refine ha _ ρ M sv hs h (fun x M2 h2 => ?_)
  refine hb _ ρ M2 _ (by simp; omega) h2 (fun y M3 h3 => ?_)
  exact G_icmp_ge hG hd ht (fun hc => kF _ (by rw [if_neg (by omega)] at h3; exact h3)) (fun hc => kT _ (by rw [if_pos (by omega)] at h3; exact h3))
theorem C_lt_F0 (hG : Mach own cc nL mn R ret nt L xs Rt G) {a : IE} {off : Int} {tgt : Nat} (ha : IAt G pc p1 d a) (hd : decode cc p1 = .ok (.ifCond .ge off, 3)) (ht : (p1 : Int) + off = (tgt : Int)) : CAt G pc (p1 + 3) tgt d (cLt a (iC 0)) := by
  intro KT KF ρ M sv hs h kT kF
  refine ha _ ρ M sv hs h (fun x M2 h3 => ?_)
  simp only [iC] at h3
  exact G_if_ge hG hd ht (fun hc => kF _ (by rw [if_neg (by omega)] at h3; exact h3)) (fun hc => kT _ (by rw [if_pos (by omega)] at h3; exact h3))
theorem C_ge_T (hG : Mach own cc nL mn R ret nt L xs Rt G) {a b : IE} {off : Int} {tgt : Nat} (ha : IAt G pc p1 d a) (hb : IAt G p1 p2 (d + 1) b) (hd : decode cc p2 = .ok (.if_icmp .ge off, 3)) (ht : (p2 : Int) + off = (tgt : Int)) : CAt G pc tgt (p2 + 3) d (cGe a b) := by
  intro KT KF ρ M sv hs h kT kF
  refine ha _ ρ M sv hs h (fun x M2 h2 => ?_)
  refine hb _ ρ M2 _ (by simp; omega) h2 (fun y M3 h3 => ?_)
  exact G_icmp_ge hG hd ht (fun hc => kT _ (by rw [if_pos hc] at h3; exact h3)) (fun hc => kF _ (by rw [if_neg hc] at h3; exact h3))
theorem C_ge_T0 (hG : Mach own cc nL mn R ret nt L xs Rt G) {a : IE} {off : Int} {tgt : Nat} (ha : IAt G pc p1 d a) (hd : decode cc p1 = .ok (.ifCond .ge off, 3)) (ht : (p1 : Int) + off = (tgt : Int)) : CAt G pc tgt (p1 + 3) d (cGe a (iC 0)) := by
  intro KT KF ρ M sv hs h kT kF
  refine ha _ ρ M sv hs h (fun x M2 h3 => ?_)
  simp only [iC] at h3
  exact G_if_ge hG hd ht (fun hc => kT _ (by rw [if_pos hc] at h3; exact h3)) (fun hc => kF _ (by rw [if_neg hc] at h3; exact h3))
theorem C_ge_F (hG : Mach own cc nL mn R ret nt L xs Rt G) {a b : IE} {off : Int} {tgt : Nat} (ha : IAt G pc p1 d a) (hb : IAt G p1 p2 (d + 1) b) (hd : decode cc p2 = .ok (.if_icmp .lt off, 3)) (ht : (p2 : Int) + off = (tgt : Int)) : CAt G pc (p2 + 3) tgt d (cGe a b) := by
  intro KT KF ρ M sv hs h kT kF
  refine ha _ ρ M sv hs h (fun x M2 h2 => ?_)
  refine hb _ ρ M2 _ (by simp; omega) h2 (fun y M3 h3 => ?_)
  exact G_icmp_lt hG hd ht (fun hc => kF _ (by rw [if_neg (by omega)] at h3; exact h3)) (fun hc => kT _ (by rw [if_pos (by omega)] at h3; exact h3))
theorem C_ge_F0 (hG : Mach own cc nL mn R ret nt L xs Rt G) {a : IE} {off : Int} {tgt : Nat} (ha : IAt G pc p1 d a) (hd : decode cc p1 = .ok (.ifCond .lt off, 3)) (ht : (p1 : Int) + off = (tgt : Int)) : CAt G pc (p1 + 3) tgt d (cGe a (iC 0)) := by
  intro KT KF ρ M sv hs h kT kF
  refine ha _ ρ M sv hs h (fun x M2 h3 => ?_)
  simp only [iC] at h3
  exact G_if_lt hG hd ht (fun hc => kF _ (by rw [if_neg (by omega)] at h3; exact h3)) (fun hc => kT _ (by rw [if_pos (by omega)] at h3; exact h3))
theorem C_gt_T (hG : Mach own cc nL mn R ret nt L xs Rt G) {a b : IE} {off : Int} {tgt : Nat} (ha : IAt G pc p1 d a) (hb : IAt G p1 p2 (d + 1) b) (hd : decode cc p2 = .ok (.if_icmp .gt off, 3)) (ht : (p2 : Int) + off = (tgt : Int)) : CAt G pc tgt (p2 + 3) d (cGt a b) := by
  intro KT KF ρ M sv hs h kT kF
  refine ha _ ρ M sv hs h (fun x M2 h2 => ?_)
  refine hb _ ρ M2 _ (by simp; omega) h2 (fun y M3 h3 => ?_)
  exact G_icmp_gt hG hd ht (fun hc => kT _ (by rw [if_pos hc] at h3; exact h3)) (fun hc => kF _ (by rw [if_neg hc] at h3; exact h3))
theorem C_gt_T0 (hG : Mach own cc nL mn R ret nt L xs Rt G) {a : IE} {off : Int} {tgt : Nat} (ha : IAt G pc p1 d a) (hd : decode cc p1 = .ok (.ifCond .gt off, 3)) (ht : (p1 : Int) + off = (tgt : Int)) : CAt G pc tgt (p1 + 3) d (cGt a (iC 0)) := by
  intro KT KF ρ M sv hs h kT kF
  refine ha _ ρ M sv hs h (fun x M2 h3 => ?_)
  simp only [iC] at h3
  exact G_if_gt hG hd ht (fun hc => kT _ (by rw [if_pos hc] at h3; exact h3)) (fun hc => kF _ (by rw [if_neg hc] at h3; exact h3))
theorem C_gt_F (hG : Mach own cc nL mn R ret nt L xs Rt G) {a b : IE} {off : Int} {tgt : Nat} (ha : IAt G pc p1 d a) (hb : IAt G p1 p2 (d + 1) b) (hd : decode cc p2 = .ok (.if_icmp .le off, 3)) (ht : (p2 : Int) + off = (tgt : Int)) : CAt G pc (p2 + 3) tgt d (cGt a b) := by
  intro KT KF ρ M sv hs h kT kF
  refine ha _ ρ M sv hs h (fun x M2 h2 => ?_)
  refine hb _ ρ M2 _ (by simp; omega) h2 (fun y M3 h3 => ?_)
  exact G_icmp_le hG hd ht (fun hc => kF _ (by rw [if_neg (by omega)] at h3; exact h3)) (fun hc => kT _ (by rw [if_pos (by omega)] at h3; exact h3))
theorem C_gt_F0 (hG : Mach own cc nL mn R ret nt L xs Rt G) {a : IE} {off : Int} {tgt : Nat} (ha : IAt G pc p1 d a) (hd : decode cc p1 = .ok (.ifCond .le off, 3)) (ht : (p1 : Int) + off = (tgt : Int)) : CAt G pc (p1 + 3) tgt d (cGt a (iC 0)) := by
  intro KT KF ρ M sv hs h kT kF
  refine ha _ ρ M sv hs h (fun x M2 h3 => ?_)
  simp only [iC] at h3
  exact G_if_le hG hd ht (fun hc => kF _ (by rw [if_neg (by omega)] at h3; exact h3)) (fun hc => kT _ (by rw [if_pos (by omega)] at h3; exact h3))
theorem C_le_T (hG : Mach own cc nL mn R ret nt L xs Rt G) {a b : IE} {off : Int} {tgt : Nat} (ha : IAt G pc p1 d a) (hb : IAt G p1 p2 (d + 1) b) (hd : decode cc p2 = .ok (.if_icmp .le off, 3)) (ht : (p2 : Int) + off = (tgt : Int)) : CAt G pc tgt (p2 + 3) d (cLe a b) := by
  intro KT KF ρ M sv hs h kT kF
  refine ha _ ρ M sv hs h (fun x M2 h2 => ?_)
  refine hb _ ρ M2 _ (by simp; omega) h2 (fun y M3 h3 => ?_)
  exact G_icmp_le hG hd ht (fun hc => kT _ (by rw [if_pos hc] at h3; exact h3)) (fun hc => kF _ (by rw [if_neg hc] at h3; exact h3))
theorem C_le_T0 (hG : Mach own cc nL mn R ret nt L xs Rt G) {a : IE} {off : Int} {tgt : Nat} (ha : IAt G pc p1 d a) (hd : decode cc p1 = .ok (.ifCond .le off, 3)) (ht : (p1 : Int) + off = (tgt : Int)) : CAt G pc tgt (p1 + 3) d (cLe a (iC 0)) := by
  intro KT KF ρ M sv hs h kT kF
  refine ha _ ρ M sv hs h (fun x M2 h3 => ?_)
  simp only [iC] at h3
  exact G_if_le hG hd ht (fun hc => kT _ (by rw [if_pos hc] at h3; exact h3)) (fun hc => kF _ (by rw [if_neg hc] at h3; exact h3))
theorem C_le_F (hG : Mach own cc nL mn R ret nt L xs Rt G) {a b : IE} {off : Int} {tgt : Nat} (ha : IAt G pc p1 d a) (hb : IAt G p1 p2 (d + 1) b) (hd : decode cc p2 = .ok (.if_icmp .gt off, 3)) (ht : (p2 : Int) + off = (tgt : Int)) : CAt G pc (p2 + 3) tgt d (cLe a b) := by
  intro KT KF ρ M sv hs h kT kF
  refine ha _ ρ M sv hs h (fun x M2 h2 => ?_)
  refine hb _ ρ M2 _ (by simp; omega) h2 (fun y M3 h3 => ?_)
  exact G_icmp_gt hG hd ht (fun hc => kF _ (by rw [if_neg (by omega)] at h3; exact h3)) (fun hc => kT _ (by rw [if_pos (by omega)] at h3; exact h3))
theorem C_le_F0 (hG : Mach own cc nL mn R ret nt L xs Rt G) {a : IE} {off : Int} {tgt : Nat} (ha : IAt G pc p1 d a) (hd : decode cc p1 = .ok (.ifCond .gt off, 3)) (ht : (p1 : Int) + off = (tgt : Int)) : CAt G pc (p1 + 3) tgt d (cLe a (iC 0)) := by
  intro KT KF ρ M sv hs h kT kF
  refine ha _ ρ M sv hs h (fun x M2 h3 => ?_)
  simp only [iC] at h3
  exact G_if_gt hG hd ht (fun hc => kF _ (by rw [if_neg (by omega)] at h3; exact h3)) (fun hc => kT _ (by rw [if_pos (by omega)] at h3; exact h3))
theorem C_and (hG : Mach own cc nL mn R ret nt L xs Rt G) {a b : CE} (ha : CAt G pc p1 p3 d a) (hb : CAt G p1 p2 p3 d b) : CAt G pc p2 p3 d (cAnd a b) := fun KT KF ρ M sv hs h kT kF => ha _ _ ρ M sv hs h (fun M2 h2 => hb _ _ ρ M2 sv hs h2 kT kF) kF
theorem C_or (hG : Mach own cc nL mn R ret nt L xs Rt G) {a b : CE} (ha : CAt G pc p2 p1 d a) (hb : CAt G p1 p2 p3 d b) : CAt G pc p2 p3 d (cOr a b) := fun KT KF ρ M sv hs h kT kF => ha _ _ ρ M sv hs h kT (fun M2 h2 => hb _ _ ρ M2 sv hs h2 kT kF)
theorem C_not (hG : Mach own cc nL mn R ret nt L xs Rt G) {a : CE} (ha : CAt G pc p1 p2 d a) : CAt G pc p2 p1 d (cNot a) := fun KT KF ρ M sv hs h kT kF => ha _ _ ρ M sv hs h kF kT
theorem C_gotoT (hG : Mach own cc nL mn R ret nt L xs Rt G) {a : CE} {off : Int} (ha : CAt G pc p1 p2 d a) (hd : decode cc p1 = .ok (.goto off, 3)) (ht : (p1 : Int) + off = (p3 : Int)) : CAt G pc p3 p2 d a := fun KT KF ρ M sv hs h kT kF => ha _ _ ρ M sv hs h (fun M2 h2 => G_goto hG hd ht (kT _ h2)) kF
theorem C_gotoF (hG : Mach own cc nL mn R ret nt L xs Rt G) {a : CE} {off : Int} (ha : CAt G pc p1 p2 d a) (hd : decode cc p2 = .ok (.goto off, 3)) (ht : (p2 : Int) + off = (p3 : Int)) : CAt G pc p1 p3 d a := fun KT KF ρ M sv hs h kT kF => ha _ _ ρ M sv hs h kT (fun M2 h2 => G_goto hG hd ht (kF _ h2))
theorem C_null (hG : Mach own cc nL mn R ret nt L xs Rt G) {r : RE} {off : Int} {tgt : Nat} (hr : RAt G pc p1 d r) (hd : decode cc p1 = .ok (.ifnull off, 3)) (ht : (p1 : Int) + off = (tgt : Int)) : CAt G pc tgt (p1 + 3) d (cNull r) := by
  intro KT KF ρ M sv hs h kT kF
  refine hr _ ρ M sv hs h (fun o M2 h3 => ?_)
  refine G_ifnull hG hd ht (fun hc => ?_) (fun hc => ?_)
  · subst hc
    exact kT _ h3
  · cases o with
    | none => exact absurd rfl hc
    | some q => exact kF _ h3
theorem S_skip (hG : Mach own cc nL mn R ret nt L xs Rt G)  : SAt G Rt pc pc sSkip := fun K ρ M h k => k _ _ h
theorem S_seq (hG : Mach own cc nL mn R ret nt L xs Rt G) {a b : ST} (ha : SAt G Rt pc p1 a) (hb : SAt G Rt p1 p2 b) : SAt G Rt pc p2 (sSeq a b) := fun K ρ M h k => ha _ ρ M h (fun ρ2 M2 h2 => hb _ ρ2 M2 h2 k)
theorem S_istore (hG : Mach own cc nL mn R ret nt L xs Rt G) {i : Nat} {e : IE} (he : IAt G pc p1 0 e) (hd : decode cc p1 = .ok (.istore i, 2)) (hi : i < nL) : SAt G Rt pc (p1 + 2) (sLoc i e) := fun K ρ M h k => he _ ρ M [] (Nat.zero_le _) h (fun x M2 h2 => G_istore hG hd hi (k _ _ h2))
theorem S_istore_n (hG : Mach own cc nL mn R ret nt L xs Rt G) {j : Fin 4} {i : Nat} {e : IE} (he : IAt G pc p1 0 e) (hd : decode cc p1 = .ok (.istore_n j, 1)) (hj : (j : Nat) = i) (hi : i < nL) : SAt G Rt pc (p1 + 1) (sLoc i e) := fun K ρ M h k => he _ ρ M [] (Nat.zero_le _) h (fun x M2 h2 => G_istore_n hG hd hj hi (k _ _ h2))
theorem S_astore (hG : Mach own cc nL mn R ret nt L xs Rt G) {i : Nat} {e : RE} (he : RAt G pc p1 0 e) (hd : decode cc p1 = .ok (.astore i, 2)) (hi : i < nL) : SAt G Rt pc (p1 + 2) (sLocR i e) := by
  intro K ρ M h k
  refine he _ ρ M [] (Nat.zero_le _) h (fun o M2 h2 => ?_)
  cases o with
  | none => exact h2.elim
  | some q => exact G_astore hG hd hi (k _ _ h2)
theorem S_astore_n (hG : Mach own cc nL mn R ret nt L xs Rt G) {j : Fin 4} {i : Nat} {e : RE} (he : RAt G pc p1 0 e) (hd : decode cc p1 = .ok (.astore_n j, 1)) (hj : (j : Nat) = i) (hi : i < nL) : SAt G Rt pc (p1 + 1) (sLocR i e) := by
  intro K ρ M h k
  refine he _ ρ M [] (Nat.zero_le _) h (fun o M2 h2 => ?_)
  cases o with
  | none => exact h2.elim
  | some q => exact G_astore_n hG hd hj hi (k _ _ h2)
theorem S_iinc (hG : Mach own cc nL mn R ret nt L xs Rt G) {i : Nat} {n : Int} (hd : decode cc pc = .ok (.iinc i n, 3)) (hi : i < nL) : SAt G Rt pc (pc + 3) (sInc i n) := by
  intro K ρ M h k
  unfold sInc at h
  split at h
  · rename_i z e
    exact G_iinc hG hd hi e h.1 (k _ _ h.2)
  · exact h.elim
theorem bool_nar {x : Int} (h : x = 0 ∨ x = 1) : narrow .boolean (.int (zI x)) = .int (zI x) ∧ fits .boolean (.int (zI x)) = true := by
  rcases h with rfl | rfl <;> exact ⟨by decide, by decide⟩
theorem S_putI (hG : Mach own cc nL mn R ret nt L xs Rt G) {idx ci j : Nat} {r : RE} {e : IE} (F : Pok own idx ci j false .int false) (hr : RAt G pc p1 0 r) (he : IAt G p1 p2 1 e) (hd : decode cc p2 = .ok (.putfield idx, 3)) : SAt G Rt pc (p2 + 3) (sPut false ci j r e) := by
  intro K ρ M h k
  refine hr _ ρ M [] (Nat.zero_le _) h (fun o M2 h2 => ?_)
  refine he _ ρ M2 _ (by simp) h2 (fun x M3 h3 => ?_)
  cases o with
  | none => exact h3.elim
  | some q =>
    obtain ⟨⟨w, hw⟩, -, h4⟩ := h3
    exact G_putI hG F hw rfl rfl hd (k _ _ h4)
theorem S_putB (hG : Mach own cc nL mn R ret nt L xs Rt G) {idx ci j : Nat} {r : RE} {e : IE} (F : Pok own idx ci j false .boolean false) (hr : RAt G pc p1 0 r) (he : IAt G p1 p2 1 e) (hd : decode cc p2 = .ok (.putfield idx, 3)) : SAt G Rt pc (p2 + 3) (sPut true ci j r e) := by
  intro K ρ M h k
  refine hr _ ρ M [] (Nat.zero_le _) h (fun o M2 h2 => ?_)
  refine he _ ρ M2 _ (by simp) h2 (fun x M3 h3 => ?_)
  cases o with
  | none => exact h3.elim
  | some q =>
    obtain ⟨⟨w, hw⟩, hb, h4⟩ := h3
    have hn := bool_nar (hb rfl)
    exact G_putI hG F hw hn.1 hn.2 hd (k _ _ h4)
theorem S_putR (hG : Mach own cc nL mn R ret nt L xs Rt G) {idx ci j : Nat} {ty : FieldType} {r r2 : RE} (F : Pok own idx ci j true ty true) (hmi : mn = "<init>") (hn : ∀ a : Nat, narrow ty (.ref a) = .ref a) (hft : ∀ a : Nat, fits ty (.ref a) = true) (hr : RAt G pc p1 0 r) (he : RAt G p1 p2 1 r2) (hd : decode cc p2 = .ok (.putfield idx, 3)) : SAt G Rt pc (p2 + 3) (sPutR ci j r r2) := by
  intro K ρ M h k
  refine hr _ ρ M [] (Nat.zero_le _) h (fun o M2 h2 => ?_)
  refine he _ ρ M2 _ (by simp) h2 (fun o2 M3 h3 => ?_)
  cases o with
  | none => exact h3.elim
  | some q =>
    cases o2 with
    | none => exact h3.elim
    | some v =>
      obtain ⟨⟨w, hw⟩, hv, h4⟩ := h3
      exact G_putR hG F hmi hw hv hn hft hd (k _ _ h4)
theorem S_putAdd (hG : Mach own cc nL mn R ret nt L xs Rt G) {idx ci j : Nat} {r : RE} {e : IE} (F0 : Fok own idx ci j false) (F : Pok own idx ci j false .int false) (hr : RAt G pc p1 0 r) (hd0 : decode cc p1 = .ok (.dup, 1)) (hd1 : decode cc (p1 + 1) = .ok (.getfield idx, 3)) (he : IAt G (p1 + 1 + 3) p2 2 e) (hd2 : decode cc p2 = .ok (.iadd, 1)) (hd : decode cc (p2 + 1) = .ok (.putfield idx, 3)) : SAt G Rt pc (p2 + 1 + 3) (sPutAdd ci j r e) := by
  intro K ρ M h k
  refine hr _ ρ M [] (Nat.zero_le _) h (fun o M2 h2 => ?_)
  cases o with
  | none => exact h2.elim
  | some q =>
    obtain ⟨⟨w, hw⟩, h3⟩ := h2
    refine G_dup hG hd0 (G_getI hG F0 hw hd1 ?_)
    refine he _ ρ M2 _ (by simp) h3 (fun x M3 h4 => ?_)
    obtain ⟨⟨w2, hw2⟩, hz, h5⟩ := h4
    exact G_iadd hG hd2 hz (G_putI hG F hw2 rfl rfl hd (k _ _ h5))
theorem S_putSub (hG : Mach own cc nL mn R ret nt L xs Rt G) {idx ci j : Nat} {r : RE} {e : IE} (F0 : Fok own idx ci j false) (F : Pok own idx ci j false .int false) (hr : RAt G pc p1 0 r) (hd0 : decode cc p1 = .ok (.dup, 1)) (hd1 : decode cc (p1 + 1) = .ok (.getfield idx, 3)) (he : IAt G (p1 + 1 + 3) p2 2 e) (hd2 : decode cc p2 = .ok (.isub, 1)) (hd : decode cc (p2 + 1) = .ok (.putfield idx, 3)) : SAt G Rt pc (p2 + 1 + 3) (sPutSub ci j r e) := by
  intro K ρ M h k
  refine hr _ ρ M [] (Nat.zero_le _) h (fun o M2 h2 => ?_)
  cases o with
  | none => exact h2.elim
  | some q =>
    obtain ⟨⟨w, hw⟩, h3⟩ := h2
    refine G_dup hG hd0 (G_getI hG F0 hw hd1 ?_)
    refine he _ ρ M2 _ (by simp) h3 (fun x M3 h4 => ?_)
    obtain ⟨⟨w2, hw2⟩, hz, h5⟩ := h4
    exact G_isub hG hd2 hz (G_putI hG F hw2 rfl rfl hd (k _ _ h5))
theorem S_iast (hG : Mach own cc nL mn R ret nt L xs Rt G) {r : RE} {i e : IE} (hr : RAt G pc p1 0 r) (hi : IAt G p1 p2 1 i) (he : IAt G p2 p3 2 e) (hd : decode cc p3 = .ok (.iastore, 1)) : SAt G Rt pc (p3 + 1) (sAst r i e) := by
  intro K ρ M h k
  refine hr _ ρ M [] (Nat.zero_le _) h (fun o M2 h2 => ?_)
  refine hi _ ρ M2 _ (by simp) h2 (fun x M3 h3 => ?_)
  refine he _ ρ M3 _ (by simp) h3 (fun z M4 h4 => ?_)
  cases o with
  | none => exact h4.elim
  | some q =>
    obtain ⟨n, hw, h0, h1, h5⟩ := h4
    exact G_iast hG hw h0 h1 hd (k _ _ h5)
theorem S_cast (hG : Mach own cc nL mn R ret nt L xs Rt G) {r : RE} {i e : IE} (hr : RAt G pc p1 0 r) (hi : IAt G p1 p2 1 i) (he : IAt G p2 p3 2 e) (hd : decode cc p3 = .ok (.castore, 1)) : SAt G Rt pc (p3 + 1) (sCst r i e) := by
  intro K ρ M h k
  refine hr _ ρ M [] (Nat.zero_le _) h (fun o M2 h2 => ?_)
  refine hi _ ρ M2 _ (by simp) h2 (fun x M3 h3 => ?_)
  refine he _ ρ M3 _ (by simp) h3 (fun z M4 h4 => ?_)
  cases o with
  | none => exact h4.elim
  | some q =>
    obtain ⟨n, hw, h0, h1, hz0, hz1, h5⟩ := h4
    exact G_cast hG hw h0 h1 hz0 hz1 hd (k _ _ h5)
theorem S_aast (hG : Mach own cc nL mn R ret nt L xs Rt G) {r e : RE} {i : IE} (hr : RAt G pc p1 0 r) (hi : IAt G p1 p2 1 i) (he : RAt G p2 p3 2 e) (hd : decode cc p3 = .ok (.aastore, 1)) : SAt G Rt pc (p3 + 1) (sRst r i e) := by
  intro K ρ M h k
  refine hr _ ρ M [] (Nat.zero_le _) h (fun o M2 h2 => ?_)
  refine hi _ ρ M2 _ (by simp) h2 (fun x M3 h3 => ?_)
  refine he _ ρ M3 _ (by simp) h3 (fun v M4 h4 => ?_)
  cases o with
  | none => exact h4.elim
  | some q =>
    cases v with
    | none => exact h4.elim
    | some u =>
      obtain ⟨n, w, hw, hv, h0, h1, h5⟩ := h4
      exact G_aast hG hw hv h0 h1 hd (k _ _ h5)
theorem S_astAdd (hG : Mach own cc nL mn R ret nt L xs Rt G) {r : RE} {i e : IE} (hr : RAt G pc p1 0 r) (hi : IAt G p1 p2 1 i) (hd0 : decode cc p2 = .ok (.dup2, 1)) (hd1 : decode cc (p2 + 1) = .ok (.iaload, 1)) (he : IAt G (p2 + 1 + 1) p3 3 e) (hd2 : decode cc p3 = .ok (.iadd, 1)) (hd : decode cc (p3 + 1) = .ok (.iastore, 1)) : SAt G Rt pc (p3 + 1 + 1) (sAstAdd r i e) := by
  intro K ρ M h k
  refine hr _ ρ M [] (Nat.zero_le _) h (fun o M2 h2 => ?_)
  refine hi _ ρ M2 _ (by simp) h2 (fun x M3 h3 => ?_)
  cases o with
  | none => exact h3.elim
  | some q =>
    obtain ⟨n, hw, h0, h1, h4⟩ := h3
    refine G_dup2 hG hd0 (G_iald hG hw h0 h1 hd1 ?_)
    refine he _ ρ M3 _ (by simp) h4 (fun z M4 h5 => ?_)
    obtain ⟨n2, hw2, h12, hz, h6⟩ := h5
    exact G_iadd hG hd2 hz (G_iast hG hw2 h0 h12 hd (k _ _ h6))
theorem S_astSub (hG : Mach own cc nL mn R ret nt L xs Rt G) {r : RE} {i e : IE} (hr : RAt G pc p1 0 r) (hi : IAt G p1 p2 1 i) (hd0 : decode cc p2 = .ok (.dup2, 1)) (hd1 : decode cc (p2 + 1) = .ok (.iaload, 1)) (he : IAt G (p2 + 1 + 1) p3 3 e) (hd2 : decode cc p3 = .ok (.isub, 1)) (hd : decode cc (p3 + 1) = .ok (.iastore, 1)) : SAt G Rt pc (p3 + 1 + 1) (sAstSub r i e) := by
  intro K ρ M h k
  refine hr _ ρ M [] (Nat.zero_le _) h (fun o M2 h2 => ?_)
  refine hi _ ρ M2 _ (by simp) h2 (fun x M3 h3 => ?_)
  cases o with
  | none => exact h3.elim
  | some q =>
    obtain ⟨n, hw, h0, h1, h4⟩ := h3
    refine G_dup2 hG hd0 (G_iald hG hw h0 h1 hd1 ?_)
    refine he _ ρ M3 _ (by simp) h4 (fun z M4 h5 => ?_)
    obtain ⟨n2, hw2, h12, hz, h6⟩ := h5
    exact G_isub hG hd2 hz (G_iast hG hw2 h0 h12 hd (k _ _ h6))
theorem S_if1 (hG : Mach own cc nL mn R ret nt L xs Rt G) {c : CE} {a : ST} (hc : CAt G pc p1 p2 0 c) (ha : SAt G Rt p1 p2 a) : SAt G Rt pc p2 (sIf1 c a) := fun K ρ M h k => hc _ _ ρ M [] (Nat.zero_le _) h (fun M2 h2 => ha _ ρ M2 h2 k) (fun M2 h2 => k _ _ h2)
theorem S_if (hG : Mach own cc nL mn R ret nt L xs Rt G) {c : CE} {a b : ST} (hc : CAt G pc p1 p2 0 c) (ha : SAt G Rt p1 p3 a) (hb : SAt G Rt p2 p3 b) : SAt G Rt pc p3 (sIf c a b) := fun K ρ M h k => hc _ _ ρ M [] (Nat.zero_le _) h (fun M2 h2 => ha _ ρ M2 h2 k) (fun M2 h2 => hb _ ρ M2 h2 k)
theorem S_goto (hG : Mach own cc nL mn R ret nt L xs Rt G) {a : ST} {off : Int} (ha : SAt G Rt pc p1 a) (hd : decode cc p1 = .ok (.goto off, 3)) (ht : (p1 : Int) + off = (p2 : Int)) : SAt G Rt pc p2 a := fun K ρ M h k => ha _ ρ M h (fun ρ2 M2 h2 => G_goto hG hd ht (k _ _ h2))
theorem S_while (hG : Mach own cc nL mn R ret nt L xs Rt G) {c : CE} {b : ST} (hc : CAt G pc p1 p2 0 c) (hb : SAt G Rt p1 pc b) : SAt G Rt pc p2 (sWhile c b) := by
  intro K ρ M h k
  obtain ⟨n, h⟩ := h
  induction n generalizing ρ M with
  | zero => exact h.elim
  | succ n ih => exact hc _ _ ρ M [] (Nat.zero_le _) h (fun M2 h2 => hb _ ρ M2 h2 (fun ρ3 M3 h3 => ih ρ3 M3 h3)) (fun M2 h2 => k _ _ h2)
theorem S_ret (hG : Mach own cc nL mn R ret nt L xs Rt G) {rt : FieldType} {e : IE} (hrt : ret = some rt) (hI : rt = .int) (he : IAt G pc p1 0 e) (hd : decode cc p1 = .ok (.ireturn, 1)) : SAt G Rt pc p2 (sRet false e) := by
  intro K ρ M h _
  refine he _ ρ M [] (Nat.zero_le _) h (fun x M2 h2 => ?_)
  exact G_ret hG hrt (by rw [hI]; rfl) hd h2.2
theorem S_retB (hG : Mach own cc nL mn R ret nt L xs Rt G) {rt : FieldType} {e : IE} (hrt : ret = some rt) (hI : rt = .boolean) (he : IAt G pc p1 0 e) (hd : decode cc p1 = .ok (.ireturn, 1)) : SAt G Rt pc p2 (sRet true e) := by
  intro K ρ M h _
  refine he _ ρ M [] (Nat.zero_le _) h (fun x M2 h2 => ?_)
  exact G_ret hG hrt (by rw [hI]; exact (bool_nar (h2.1 rfl)).1) hd h2.2
theorem S_retV (hG : Mach own cc nL mn R ret nt L xs Rt G) (hrt : ret = none) (hd : decode cc pc = .ok (.return_, 1)) : SAt G Rt pc p2 sRetV := fun K ρ M h _ => G_retV hG hrt hd h
theorem S_pop (hG : Mach own cc nL mn R ret nt L xs Rt G) {e : IE} (he : IAt G pc p1 0 e) (hd : decode cc p1 = .ok (.pop, 1)) : SAt G Rt pc (p1 + 1) (sPop e) := fun K ρ M h k => he _ ρ M [] (Nat.zero_le _) h (fun x M2 h2 => G_pop hG hd (k _ _ h2))
theorem S_obj (hG : Mach own cc nL mn R ret nt L xs Rt G) {idx : Nat} {r : RE} (hk : ∀ w ∈ ([.methodLink own idx Lib.objectInit, .instanceMethod Lib.objectInit, .code Lib.objectInit ⟨#[0xb1]⟩ 1 none] : List Cond), w ∈ gtb) (hR : 1 ≤ R.frames ∧ 12 ≤ R.locals) (hr : RAt G pc p1 0 r) (hd : decode cc p1 = .ok (.invokespecial idx, 3)) : SAt G Rt pc (p1 + 3) (sObj r) := by
  intro K ρ M h k
  refine hr _ ρ M [] (Nat.zero_le _) h (fun o M2 h2 => ?_)
  cases o with
  | none => exact h2.elim
  | some q =>
    exact G_objI hG hk ⟨hR.1, by simpa using hR.2⟩ hd (k _ _ h2)
theorem S_copy (hG : Mach own cc nL mn R ret nt L xs Rt G) {idx : Nat} {a b : RE} {i j n : IE} (hk : ∀ w ∈ ([.methodLink own idx arraycopyName, .native arraycopyName, .static arraycopyName, .initialized "java/lang/System"] : List Cond), w ∈ gtb) (hR : 1 ≤ R.frames ∧ 18 ≤ R.locals) (ha : RAt G pc p1 0 a) (hi : IAt G p1 p2 1 i) (hb : RAt G p2 p3 2 b) (hj : IAt G p3 p4 3 j) (hn : IAt G p4 p5 4 n) (hd : decode cc p5 = .ok (.invokestatic idx, 3)) : SAt G Rt pc (p5 + 3) (sCopy a b i j n) := by
  intro K ρ M h k
  refine ha _ ρ M [] (Nat.zero_le _) h (fun o M2 h2 => ?_)
  refine hi _ ρ M2 _ (by simp) h2 (fun sp M3 h3 => ?_)
  refine hb _ ρ M3 _ (by simp) h3 (fun o2 M4 h4 => ?_)
  refine hj _ ρ M4 _ (by simp) h4 (fun dp M5 h5 => ?_)
  refine hn _ ρ M5 _ (by simp) h5 (fun z M6 h6 => ?_)
  cases o with
  | none => exact h6.elim
  | some q0 =>
    cases o2 with
    | none => exact h6.elim
    | some q1 =>
      obtain ⟨n0, n1, w0, w1, e1, e2, e3, e4, e5, h7⟩ := h6
      exact G_copy hG hk ⟨hR.1, by simpa using hR.2⟩ w0 w1 e1 e2 e3 e4 e5 hd (k _ _ h7)
theorem S_copyT (hG : Mach own cc nL mn R ret nt L xs Rt G) {idx idx0 t : Nat} {host : String} {b : RE} {i j n : IE} (hk : ∀ w ∈ ([.methodLink own idx arraycopyName, .native arraycopyName, .static arraycopyName, .initialized "java/lang/System"] : List Cond), w ∈ gtb) (hR : 1 ≤ R.frames ∧ 18 ≤ R.locals) (ht : t < 3) (hlk : Cond.fieldLinkNest own idx0 "SungSlides" (stN t) "[I" host ∈ nestW) (hd0 : decode cc pc = .ok (.getstatic idx0, 3)) (hi : IAt G (pc + 3) p2 1 i) (hb : RAt G p2 p3 2 b) (hj : IAt G p3 p4 3 j) (hn : IAt G p4 p5 4 n) (hd : decode cc p5 = .ok (.invokestatic idx, 3)) : SAt G Rt pc (p5 + 3) (sCopyT xs t b i j n) := by
  intro K ρ M h k
  refine G_getsN hG ht hlk hd0 ?_
  refine hi _ ρ M _ (by simp) h (fun sp M3 h3 => ?_)
  refine hb _ ρ M3 _ (by simp) h3 (fun o2 M4 h4 => ?_)
  refine hj _ ρ M4 _ (by simp) h4 (fun dp M5 h5 => ?_)
  refine hn _ ρ M5 _ (by simp) h5 (fun z M6 h6 => ?_)
  cases o2 with
  | none => exact h6.elim
  | some q1 =>
      obtain ⟨n1, w1, e1, e2, e3, e4, e5, h7⟩ := h6
      exact G_copyT hG hk ⟨hR.1, by simpa using hR.2⟩ ht w1 e1 e2 e3 e4 e5 hd (k _ _ h7)
def SwAt (G : Gt) (Rt : Int → Mm → Prop) (pe : Nat) : List Nat → List ST → Prop
  | [], [] => True
  | t :: ts, f :: fs => SAt G Rt t pe f ∧ SwAt G Rt pe ts fs
  | _, _ => False
theorem SwAt_get {pe : Nat} : ∀ {ts : List Nat} {fs : List ST}, SwAt G Rt pe ts fs → ∀ i : Nat, i < fs.length → ∀ df : ST, SAt G Rt (ts.getD i 0) pe (fs.getD i df)
  | [], [], _, i, hi, _ => absurd hi (Nat.not_lt_zero i)
  | t :: ts, f :: fs, h, 0, _, _ => h.1
  | t :: ts, f :: fs, h, i + 1, hi, df => SwAt_get h.2 i (Nat.lt_of_succ_lt_succ hi) df
  | [], _ :: _, h, _, _, _ => h.elim
  | _ :: _, [], h, _, _, _ => h.elim
theorem SwAt_len {pe : Nat} : ∀ {ts : List Nat} {fs : List ST}, SwAt G Rt pe ts fs → ts.length = fs.length
  | [], [], _ => rfl
  | _ :: _, _ :: _, h => congrArg (· + 1) (SwAt_len h.2)
  | [], _ :: _, h => h.elim
  | _ :: _, [], h => h.elim
theorem S_sw (hG : Mach own cc nL mn R ret nt L xs Rt G) {e : IE} {lo hi dflt : Int} {offs : Array Int} {len dt : Nat} {ts : List Nat} {fs : List ST} {df : ST} (he : IAt G pc p1 0 e) (hd : decode cc p1 = .ok (.tableswitch dflt lo hi offs, len)) (hdt : (p1 : Int) + dflt = (dt : Int)) (hof : offs.toList.map (fun o => (p1 : Int) + o) = ts.map (fun (t : Nat) => (t : Int))) (hhi : lo + fs.length = hi + 1) (hs : SwAt G Rt p2 ts fs) (hdf : SAt G Rt dt p2 df) : SAt G Rt pc p2 (sSw e lo fs df) := by
  intro K ρ M h k
  refine he _ ρ M [] (Nat.zero_le _) h (fun x M2 h2 => ?_)
  have hl := SwAt_len hs
  refine G_tab hG hd (fun z => ts.getD (z - lo).toNat 0) dt hdt (fun z h0 h1 => ?_) (fun h0 h1 => ?_) (fun h0 => ?_)
  · have hlt : (z - lo).toNat < ts.length := by omega
    have h3 := congrArg (fun l => l[(z - lo).toNat]?) hof
    simp only [List.getElem?_map, Array.getElem?_toList, List.getElem?_eq_getElem hlt, Option.map_some] at h3
    cases h4 : offs[(z - lo).toNat]? with
    | none => rw [h4] at h3; cases h3
    | some o =>
      rw [h4] at h3
      exact ⟨o, rfl, by rw [List.getD_eq_getElem?_getD, List.getElem?_eq_getElem hlt]; exact Option.some.inj h3⟩
  · rw [if_pos ⟨h0, by omega⟩] at h2
    exact SwAt_get hs (x - lo).toNat (by omega) df _ ρ M2 h2 k
  · rw [if_neg (by omega)] at h2
    exact hdf _ ρ M2 h2 k
end AT
end
section
theorem lg_len (ad : Nat → Nat) (av : List Vv) : (lg_sl (av.map (cv ad))).length = av.length := by
  induction av with
  | nil => rfl
  | cons v t ih =>
    have h1 : lg_sl ((v :: t).map (cv ad)) = .val (cv ad v) :: lg_sl (t.map (cv ad)) := by
      show (if (cv ad v).category = 2 then ([.val (cv ad v), .second] : List Slot) else [.val (cv ad v)]) ++ lg_sl (t.map (cv ad)) = _
      rw [cv_cat]
      rfl
    rw [h1, List.length_cons, List.length_cons, ih]
theorem lv_args_in (ad : Nat → Nat) : ∀ (av : List Vv) (k i : Nat) (v : Vv), av[i]? = some v → (k + i, cv ad v) ∈ lv_args k (av.map (cv ad))
  | [], _, _, _, h => by simp at h
  | w :: t, k, 0, v, h => by
    cases h
    exact List.mem_cons_self
  | w :: t, k, i + 1, v, h => by
    have h1 := lv_args_in ad t (k + 1) i v h
    have h2 : lv_args k ((w :: t).map (cv ad)) = (k, cv ad w) :: lv_args (k + 1) (t.map (cv ad)) := by
      show (_ :: lv_args (if (cv ad w).category = 2 then _ else _) _) = _
      rw [cv_cat]
      rfl
    rw [h2, show k + (i + 1) = k + 1 + i by omega]
    exact List.mem_cons_of_mem _ h1
theorem ent_at {av : List Vv} {lc ls : Int} {i : Nat} {v : Vv} (h : av[i]? = some v) : ent av lc ls i = v := by simp [ent, h]
theorem ent_no {av : List Vv} {lc ls : Int} {i : Nat} (h : av[i]? = none) (h1 : i < 1000) : ent av lc ls i = .inr none := by
  unfold ent
  rw [h]
  show (if i = 1000 then _ else _) = _
  rw [if_neg (by omega), if_neg (by omega)]
theorem ent_env {ad : Nat → Nat} {av : List Vv} {lc ls : Int} {nL : Nat} (hn : nL ≤ 1000) {sl : Array Slot} (h : lv_has sl nL (lv_args 0 (av.map (cv ad)))) : lv_has sl nL (envL ad (ent av lc ls) nL) := by
  refine ⟨h.1, h.2.1, fun q hq => h.2.2 q ?_⟩
  obtain ⟨j, hj, hq⟩ := List.mem_filterMap.mp hq
  obtain ⟨rfl, hne⟩ := envF_to hq
  have hj := List.mem_range.mp hj
  cases e : av[j]? with
  | none => exact absurd (ent_no e (by omega)) hne
  | some v =>
    rw [ent_at e]
    have := lv_args_in ad av 0 j v e
    rwa [Nat.zero_add] at this
theorem ent_lim {av : List Vv} {lc ls : Int} (h : av.length ≤ 1000) : limC (ent av lc ls) = lc.toNat ∧ limS (ent av lc ls) = ls.toNat := by
  have h1 : av[1000]? = none := List.getElem?_eq_none h
  have h2 : av[1001]? = none := List.getElem?_eq_none (by omega)
  simp [limC, limS, ent, h1, h2]
set_option maxHeartbeats 1000000 in
theorem met_coreI {y : MethodName} {cy : ByteArray} {maxL pe : Nat} {rt : FieldType} {rm : Room} {S : ST} (al : List (Nat × Nat)) (hy : plainName y.cls = true) (hmL : maxL ≤ 1000) (hal : al.length = rm.cells ∧ ssum al = rm.slots)
    (body : ∀ (Rt : Int → Mm → Prop) (G : Gt), Mach y.cls cy maxL y.name rm (some rt) 3 0 (fun _ => 0) Rt G → SAt G Rt 0 pe S)
    (l : Launch) (dC : Nat → ClassId) (dI : Nat → Nat → Nat) (cI cC cS : ClassId) (sA : Nat → Nat) (av : List Vv) (M : Mm) (ad : Nat → Nat) (sz : Nat) (Rt : Int → Mm → Prop)
    (hMM : MOK M) (hva : ∀ v ∈ av, vok M v) (hsA : ∀ t, ad (1000000 + t) = sA t) (hlen : av.length ≤ maxL) (lc ls : Int) (hlim : lc.toNat ≤ M.1.length + rm.cells ∧ ls.toNat ≤ ssum M.1 + rm.slots)
    (hSS : S (fun _ _ => False) (fun r M2 => M2.1 = M.1 ++ al ∧ Rt r M2) (ent av lc ls) M) :
    Met l y (.code y cy maxL (some rt) :: gtb) rm (PcM dC dI cI cC cS sA av M ad sz) (va_Qi (fun r32 u => ∃ r : Int, r32 = zI r ∧ PuM Rt rm sA M ad r u) (BM dC dI cI cC cS (va_A (wsOf cI cC cS ad M) sz)) (va_A (wsOf cI cC cS ad M) sz)) rm.cells rm.slots (va_A (wsOf cI cC cS ad M) sz) := by
  refine Met.ofW (cc := cy) (maxL := maxL) (ret := (some rt)) hy rfl ?_
  intro p e s m args below meth c s₁ B hml hv
  obtain ⟨rfl, hsz, hP, hK, hD0, hSt⟩ := hv
  have hx := B.exec
  have hb := B.bytes
  have hr := B.returns
  have hts := atoms_spec (ws := .code y cy maxL (some rt) :: gtb) B.pre
  have hown : s.vm.findClass y.cls = some m.cls := findClass_of_methodNamed B.named
  have hlocks := B.notSynchronized
  have hin : meth.name = y.name := (name_of_methodNamed B.named B.method).1
  subst hsz
  have hD := hD0.self (sz := s.heap.size)
  generalize hAe : va_A (wsOf cI cC cS ad M) s.heap.size = A at hD hSt ⊢
  have hA : ∀ q : Nat, s.heap.size ≤ q → A q := fun q h => by rw [← hAe]; exact Or.inr h
  have hl := lv_entry (av.map (cv ad)) (n := maxL) (by rw [lg_len]; exact hlen)
  rw [lg_entry_eq]
  generalize (lg_sl (av.map (cv ad)) ++ List.replicate (maxL - (lg_sl (av.map (cv ad))).length) Slot.unset).toArray = sl at hl ⊢
  obtain ⟨elc, els⟩ := ent_lim (av := av) (lc := lc) (ls := ls) (by omega)
  have hmach : Mach y.cls cy maxL y.name rm (some rt) 3 0 (fun _ => 0) (fun r M2 => M2.1 = M.1 ++ al ∧ Rt r M2) (Wp p l e rm s m (av.map (cv ad)).toArray below meth c dC dI cI cC cS sA A maxL M.1.length (ssum M.1) ad (MQ below (va_Qi (fun r32 u => ∃ r : Int, r32 = zI r ∧ PuM Rt rm sA M ad r u) (BM dC dI cI cC cS A) A) (av.map (cv ad)).toArray s rm.cells rm.slots A)) := by
    refine ⟨p, l, e, s, m, _, below, meth, c, dC, dI, cI, cC, cS, sA, A, M.1.length, ssum M.1, ad, _, ⟨hx, hb, hml, hown, fun w hw => hts w (List.mem_cons_of_mem _ hw), hK, hA, hSt, hin, hmL, ?_, ?_⟩, rfl⟩
    · intro rt2 pc x ρ M2 hrt hn hd hR ad2 H locs cells slots ls2 hpt
      cases hrt
      obtain ⟨⟨hP2, hD2, hS2⟩, ⟨hM2, -, -, hvs⟩, ⟨⟨hn0, had0⟩, hsA2⟩, hcn, hsn, hcl, hsl, -, -⟩ := hpt
      have hxr : inR x := hvs (.inl x) List.mem_cons_self
      have hl1 : M2.1.length = M.1.length + rm.cells := by rw [hR.1, List.length_append, hal.1]
      have hl2 : ssum M2.1 = ssum M.1 + rm.slots := by rw [hR.1, ssum_app, hal.2]
      refine W.widen (k := rm.cells) (n := rm.slots) hcl hsl ?_
      exact W.zret (v := zI x) hx hb hr hn (fun t ht hW => ⟨⟨zI x, (M2, ad2), rfl, ⟨x, rfl, hR.2, hxr, hM2, hl1, hl2, had0, hsA2⟩, by rw [ht]; exact hP2, va_K.moved hW.alike hK, hD2⟩, hS2.F ht⟩) hS2.2.2 hd
    · intro pc ρ M2 hrt
      cases hrt
  have hG := body _ _ hmach (fun _ _ => False) _ M hSS (fun _ _ h => h.elim)
  refine hG ad s.heap [] 0 0 sl ⟨⟨hP, hD, va_S.rf⟩, ⟨hMM, ent_env hmL hl, fun i hi => ?_, fun v hv => by cases hv⟩, ⟨⟨Nat.le_refl _, fun _ _ => rfl⟩, hsA⟩, rfl, rfl, Nat.zero_le _, Nat.zero_le _, by rw [elc]; exact hlim.1, by rw [els]; exact hlim.2⟩
  cases e2 : av[i]? with
  | none =>
    rw [ent_no e2 hi]
    trivial
  | some v =>
    rw [ent_at e2]
    exact hva v (List.mem_of_getElem? e2)
theorem MOkI_mk {y : MethodName} {cy : ByteArray} {maxL pe n : Nat} {rt : FieldType} {rm : Room} {S : ST} (al : List (Nat × Nat)) (hy : plainName y.cls = true) (hmL : maxL ≤ 1000) (hn : n ≤ maxL) (hal : al.length = rm.cells ∧ ssum al = rm.slots)
    (body : ∀ (Rt : Int → Mm → Prop) (G : Gt), Mach y.cls cy maxL y.name rm (some rt) 3 0 (fun _ => 0) Rt G → SAt G Rt 0 pe S) : MOkI y cy maxL rt rm (mkM n al S) := by
  intro l dC dI cI cC cS sA av M ad sz Rt hMM hva hsA hMe
  obtain ⟨hlen, hS⟩ := hMe
  exact met_coreI al hy hmL hal body l dC dI cI cC cS sA av M ad sz Rt hMM hva hsA (by omega) _ _ ⟨by rw [← hal.1]; omega, by rw [← hal.2]; omega⟩ hS
theorem MOkI_mk0 {y : MethodName} {cy : ByteArray} {maxL pe n : Nat} {rt : FieldType} {rm : Room} {S : ST} (hy : plainName y.cls = true) (hmL : maxL ≤ 1000) (hn : n ≤ maxL) (h0 : rm.cells = 0 ∧ rm.slots = 0)
    (body : ∀ (Rt : Int → Mm → Prop) (G : Gt), Mach y.cls cy maxL y.name rm (some rt) 3 0 (fun _ => 0) Rt G → SAt G Rt 0 pe S) : MOkI y cy maxL rt rm (mk0 n S) := by
  intro l dC dI cI cC cS sA av M ad sz Rt hMM hva hsA hMe
  obtain ⟨hlen, hS⟩ := hMe
  exact met_coreI [] hy hmL ⟨h0.1.symm, h0.2.symm⟩ body l dC dI cI cC cS sA av M ad sz Rt hMM hva hsA (by omega) 0 0 ⟨by omega, by omega⟩ (by simpa using hS)
set_option maxHeartbeats 1000000 in
theorem met_coreV {y : MethodName} {cy : ByteArray} {maxL pe : Nat} {rm : Room} {S : ST} (al : List (Nat × Nat)) (hy : plainName y.cls = true) (hmL : maxL ≤ 1000) (hal : al.length = rm.cells ∧ ssum al = rm.slots)
    (body : ∀ (Rt : Int → Mm → Prop) (G : Gt), Mach y.cls cy maxL y.name rm none 3 0 (fun _ => 0) Rt G → SAt G Rt 0 pe S)
    (l : Launch) (dC : Nat → ClassId) (dI : Nat → Nat → Nat) (cI cC cS : ClassId) (sA : Nat → Nat) (av : List Vv) (M : Mm) (ad : Nat → Nat) (sz : Nat) (Rt : Int → Mm → Prop)
    (hMM : MOK M) (hva : ∀ v ∈ av, vok M v) (hsA : ∀ t, ad (1000000 + t) = sA t) (hlen : av.length ≤ maxL) (lc ls : Int) (hlim : lc.toNat ≤ M.1.length + rm.cells ∧ ls.toNat ≤ ssum M.1 + rm.slots)
    (hSS : S (fun _ _ => False) (fun r M2 => M2.1 = M.1 ++ al ∧ Rt r M2) (ent av lc ls) M) :
    Met l y (.code y cy maxL none :: gtb) rm (PcM dC dI cI cC cS sA av M ad sz) (va_Qv (fun u => PuM Rt rm sA M ad 0 u) (BM dC dI cI cC cS (va_A (wsOf cI cC cS ad M) sz)) (va_A (wsOf cI cC cS ad M) sz)) rm.cells rm.slots (va_A (wsOf cI cC cS ad M) sz) := by
  refine Met.ofW (cc := cy) (maxL := maxL) (ret := none) hy rfl ?_
  intro p e s m args below meth c s₁ B hml hv
  obtain ⟨rfl, hsz, hP, hK, hD0, hSt⟩ := hv
  have hx := B.exec
  have hb := B.bytes
  have hr := B.returns
  have hts := atoms_spec (ws := .code y cy maxL none :: gtb) B.pre
  have hown : s.vm.findClass y.cls = some m.cls := findClass_of_methodNamed B.named
  have hlocks := B.notSynchronized
  have hin : meth.name = y.name := (name_of_methodNamed B.named B.method).1
  subst hsz
  have hD := hD0.self (sz := s.heap.size)
  generalize hAe : va_A (wsOf cI cC cS ad M) s.heap.size = A at hD hSt ⊢
  have hA : ∀ q : Nat, s.heap.size ≤ q → A q := fun q h => by rw [← hAe]; exact Or.inr h
  have hl := lv_entry (av.map (cv ad)) (n := maxL) (by rw [lg_len]; exact hlen)
  rw [lg_entry_eq]
  generalize (lg_sl (av.map (cv ad)) ++ List.replicate (maxL - (lg_sl (av.map (cv ad))).length) Slot.unset).toArray = sl at hl ⊢
  obtain ⟨elc, els⟩ := ent_lim (av := av) (lc := lc) (ls := ls) (by omega)
  have hmach : Mach y.cls cy maxL y.name rm none 3 0 (fun _ => 0) (fun r M2 => M2.1 = M.1 ++ al ∧ Rt r M2) (Wp p l e rm s m (av.map (cv ad)).toArray below meth c dC dI cI cC cS sA A maxL M.1.length (ssum M.1) ad (MQ below (va_Qv (fun u => PuM Rt rm sA M ad 0 u) (BM dC dI cI cC cS A) A) (av.map (cv ad)).toArray s rm.cells rm.slots A)) := by
    refine ⟨p, l, e, s, m, _, below, meth, c, dC, dI, cI, cC, cS, sA, A, M.1.length, ssum M.1, ad, _, ⟨hx, hb, hml, hown, fun w hw => hts w (List.mem_cons_of_mem _ hw), hK, hA, hSt, hin, hmL, ?_, ?_⟩, rfl⟩
    · intro rt pc x ρ M2 hrt
      cases hrt
    · intro pc ρ M2 hrt hd hR ad2 H locs cells slots ls2 hpt
      obtain ⟨⟨hP2, hD2, hS2⟩, ⟨hM2, -, -, hvs⟩, ⟨⟨hn0, had0⟩, hsA2⟩, hcn, hsn, hcl, hsl, -, -⟩ := hpt
      have hl1 : M2.1.length = M.1.length + rm.cells := by rw [hR.1, List.length_append, hal.1]
      have hl2 : ssum M2.1 = ssum M.1 + rm.slots := by rw [hR.1, ssum_app, hal.2]
      refine W.widen (k := rm.cells) (n := rm.slots) hcl hsl ?_
      exact W.vret hx hb hr (fun t ht hW => ⟨⟨(M2, ad2), rfl, ⟨hR.2, inR_0, hM2, hl1, hl2, had0, hsA2⟩, by rw [ht]; exact hP2, va_K.moved hW.alike hK, hD2⟩, hS2.F ht⟩) hS2.2.2 hd
  have hG := body _ _ hmach (fun _ _ => False) _ M hSS (fun _ _ h => h.elim)
  refine hG ad s.heap [] 0 0 sl ⟨⟨hP, hD, va_S.rf⟩, ⟨hMM, ent_env hmL hl, fun i hi => ?_, fun v hv => by cases hv⟩, ⟨⟨Nat.le_refl _, fun _ _ => rfl⟩, hsA⟩, rfl, rfl, Nat.zero_le _, Nat.zero_le _, by rw [elc]; exact hlim.1, by rw [els]; exact hlim.2⟩
  cases e2 : av[i]? with
  | none =>
    rw [ent_no e2 hi]
    trivial
  | some v =>
    rw [ent_at e2]
    exact hva v (List.mem_of_getElem? e2)
theorem MOkV_mk {y : MethodName} {cy : ByteArray} {maxL pe n : Nat} {rm : Room} {S : ST} (al : List (Nat × Nat)) (hy : plainName y.cls = true) (hmL : maxL ≤ 1000) (hn : n ≤ maxL) (hal : al.length = rm.cells ∧ ssum al = rm.slots)
    (body : ∀ (Rt : Int → Mm → Prop) (G : Gt), Mach y.cls cy maxL y.name rm none 3 0 (fun _ => 0) Rt G → SAt G Rt 0 pe S) : MOkV y cy maxL rm (mkM n al S) := by
  intro l dC dI cI cC cS sA av M ad sz Rt hMM hva hsA hMe
  obtain ⟨hlen, hS⟩ := hMe
  exact met_coreV al hy hmL hal body l dC dI cI cC cS sA av M ad sz Rt hMM hva hsA (by omega) _ _ ⟨by rw [← hal.1]; omega, by rw [← hal.2]; omega⟩ hS
theorem MOkV_mk0 {y : MethodName} {cy : ByteArray} {maxL pe n : Nat} {rm : Room} {S : ST} (hy : plainName y.cls = true) (hmL : maxL ≤ 1000) (hn : n ≤ maxL) (h0 : rm.cells = 0 ∧ rm.slots = 0)
    (body : ∀ (Rt : Int → Mm → Prop) (G : Gt), Mach y.cls cy maxL y.name rm none 3 0 (fun _ => 0) Rt G → SAt G Rt 0 pe S) : MOkV y cy maxL rm (mk0 n S) := by
  intro l dC dI cI cC cS sA av M ad sz Rt hMM hva hsA hMe
  obtain ⟨hlen, hS⟩ := hMe
  exact met_coreV [] hy hmL ⟨h0.1.symm, h0.2.symm⟩ body l dC dI cI cC cS sA av M ad sz Rt hMM hva hsA (by omega) 0 0 ⟨by omega, by omega⟩ (by simpa using hS)
end
section
theorem in_u0 : ∀ w ∈ u_ws RX0 TX0 2, w ∈ gtb := in_p _ [88, 90] (by decide +kernel) (by decide +kernel)
theorem in_u1 : ∀ w ∈ u_ws RX1 TX1 12, w ∈ gtb := in_p _ [143, 145, 147, 149, 151, 153, 155, 157, 159, 161, 163, 165] (by decide +kernel) (by decide +kernel)
theorem in_u2 : ∀ w ∈ u_ws RX2 TX2 3, w ∈ gtb := in_p _ [116, 118, 120] (by decide +kernel) (by decide +kernel)
theorem in_u3 : ∀ w ∈ u_ws RX3 TX3 6, w ∈ gtb := in_p _ [46, 48, 50, 52, 54, 56] (by decide +kernel) (by decide +kernel)
theorem in_u4 : ∀ w ∈ u_ws RX4 TX4 3, w ∈ gtb := in_p _ [70, 72, 74] (by decide +kernel) (by decide +kernel)
theorem in_u5 : ∀ w ∈ u_ws RX5 TX5 2, w ∈ gtb := in_p _ [101, 103] (by decide +kernel) (by decide +kernel)
theorem in_u6 : ∀ w ∈ u_ws RX6 TX6 8, w ∈ gtb := in_p _ [176, 178, 180, 182, 184, 186, 188, 190] (by decide +kernel) (by decide +kernel)
set_option maxRecDepth 100000 in
theorem oiX6_1 : ∀ w ∈ ([.methodLink RX6 1 Lib.objectInit, .instanceMethod Lib.objectInit, .code Lib.objectInit ⟨#[0xb1]⟩ 1 none] : List Cond), w ∈ gtb := in_p [.methodLink RX6 1 Lib.objectInit, .instanceMethod Lib.objectInit, .code Lib.objectInit ⟨#[0xb1]⟩ 1 none] [25, 26, 27] rfl (by decide +kernel)
set_option maxRecDepth 100000 in
theorem ckX6_9 : CkI RX6 9 yX4_init cX4_init 2 0 := ⟨in_p [.methodLink RX6 9 yX4_init, .instanceMethod yX4_init, .initialized yX4_init.cls, .code yX4_init cX4_init 2 none] [30, 31, 12, 32] rfl (by decide +kernel), rfl, ⟨by decide +kernel, by decide +kernel, by decide +kernel⟩⟩
set_option maxRecDepth 100000 in
theorem noX6_7 : Nok RX6 7 4 := ⟨RX4, TX4, 3, tyX4, rfl, in_u4, tyX4_ok, in_p [Cond.classLink RX6 7 RX4] [28] rfl (by decide +kernel) _ List.mem_cons_self, in_p [Cond.instantiable RX4 3] [29] rfl (by decide +kernel) _ List.mem_cons_self, in_p [Cond.initialized RX4] [12] rfl (by decide +kernel) _ List.mem_cons_self, by decide, rfl, by decide +kernel⟩
set_option maxRecDepth 100000 in
theorem poX6_10 : Pok RX6 10 6 0 true (.object "SungSlides$State") true := ⟨RX6, TX6, 8, tyX6, rfl, by decide, in_u6, tyX6_ok, nmX6, in_p [Cond.fieldLink RX6 10 RX6 "now" "LSungSlides$State;"] [168] (by decide +kernel) (by decide +kernel) _ List.mem_cons_self, rfl, rfl, by decide +kernel, rfl, by decide, fun _ => rfl⟩
set_option maxRecDepth 100000 in
theorem poX6_16 : Pok RX6 16 6 1 true (.object "SungSlides$State") true := ⟨RX6, TX6, 8, tyX6, rfl, by decide, in_u6, tyX6_ok, nmX6, in_p [Cond.fieldLink RX6 16 RX6 "would" "LSungSlides$State;"] [169] (by decide +kernel) (by decide +kernel) _ List.mem_cons_self, rfl, rfl, by decide +kernel, rfl, by decide, fun _ => rfl⟩
set_option maxRecDepth 100000 in
theorem poX6_19 : Pok RX6 19 6 2 true (.object "SungSlides$State") true := ⟨RX6, TX6, 8, tyX6, rfl, by decide, in_u6, tyX6_ok, nmX6, in_p [Cond.fieldLink RX6 19 RX6 "snapshot" "LSungSlides$State;"] [170] (by decide +kernel) (by decide +kernel) _ List.mem_cons_self, rfl, rfl, by decide +kernel, rfl, by decide, fun _ => rfl⟩
set_option maxRecDepth 100000 in
theorem poX6_22 : Pok RX6 22 6 3 false .boolean false := ⟨RX6, TX6, 8, tyX6, rfl, by decide, in_u6, tyX6_ok, nmX6, in_p [Cond.fieldLink RX6 22 RX6 "hasSnapshot" "Z"] [171] (by decide +kernel) (by decide +kernel) _ List.mem_cons_self, rfl, rfl, by decide +kernel, rfl, by decide, fun _ => rfl⟩
set_option maxRecDepth 100000 in
theorem ckX6_28 : CkI RX6 28 yX0_init cX0_init 2 0 := ⟨in_p [.methodLink RX6 28 yX0_init, .instanceMethod yX0_init, .initialized yX0_init.cls, .code yX0_init cX0_init 2 none] [79, 80, 15, 81] rfl (by decide +kernel), rfl, ⟨by decide +kernel, by decide +kernel, by decide +kernel⟩⟩
set_option maxRecDepth 100000 in
theorem noX6_26 : Nok RX6 26 0 := ⟨RX0, TX0, 2, tyX0, rfl, in_u0, tyX0_ok, in_p [Cond.classLink RX6 26 RX0] [77] rfl (by decide +kernel) _ List.mem_cons_self, in_p [Cond.instantiable RX0 2] [78] rfl (by decide +kernel) _ List.mem_cons_self, in_p [Cond.initialized RX0] [15] rfl (by decide +kernel) _ List.mem_cons_self, by decide, rfl, by decide +kernel⟩
set_option maxRecDepth 100000 in
theorem poX6_29 : Pok RX6 29 6 4 true (.object "SungSlides$History") true := ⟨RX6, TX6, 8, tyX6, rfl, by decide, in_u6, tyX6_ok, nmX6, in_p [Cond.fieldLink RX6 29 RX6 "history" "LSungSlides$History;"] [172] (by decide +kernel) (by decide +kernel) _ List.mem_cons_self, rfl, rfl, by decide +kernel, rfl, by decide, fun _ => rfl⟩
set_option maxRecDepth 100000 in
theorem ckX6_35 : CkIN RX6 35 "SungSlides" yX5_init cX5_init 1 0 := ⟨in_p [.instanceMethod yX5_init, .initialized yX5_init.cls, .code yX5_init cX5_init 1 none] [96, 16, 97] rfl (by decide +kernel), rfl, ⟨by decide +kernel, by decide +kernel, by decide +kernel⟩, in_n _ 95 rfl rfl⟩
set_option maxRecDepth 100000 in
theorem noX6_33 : Nok RX6 33 5 := ⟨RX5, TX5, 2, tyX5, rfl, in_u5, tyX5_ok, in_p [Cond.classLink RX6 33 RX5] [93] rfl (by decide +kernel) _ List.mem_cons_self, in_p [Cond.instantiable RX5 2] [94] rfl (by decide +kernel) _ List.mem_cons_self, in_p [Cond.initialized RX5] [16] rfl (by decide +kernel) _ List.mem_cons_self, by decide, rfl, by decide +kernel⟩
set_option maxRecDepth 100000 in
theorem poX6_36 : Pok RX6 36 6 5 true (.object "SungSlides$Text") true := ⟨RX6, TX6, 8, tyX6, rfl, by decide, in_u6, tyX6_ok, nmX6, in_p [Cond.fieldLink RX6 36 RX6 "text" "LSungSlides$Text;"] [173] (by decide +kernel) (by decide +kernel) _ List.mem_cons_self, rfl, rfl, by decide +kernel, rfl, by decide, fun _ => rfl⟩
set_option maxRecDepth 100000 in
theorem ckX6_42 : CkIN RX6 42 "SungSlides" yX2_init cX2_init 1 0 := ⟨in_p [.instanceMethod yX2_init, .initialized yX2_init.cls, .code yX2_init cX2_init 1 none] [110, 17, 111] rfl (by decide +kernel), rfl, ⟨by decide +kernel, by decide +kernel, by decide +kernel⟩, in_n _ 109 rfl rfl⟩
set_option maxRecDepth 100000 in
theorem noX6_40 : Nok RX6 40 2 := ⟨RX2, TX2, 3, tyX2, rfl, in_u2, tyX2_ok, in_p [Cond.classLink RX6 40 RX2] [107] rfl (by decide +kernel) _ List.mem_cons_self, in_p [Cond.instantiable RX2 3] [108] rfl (by decide +kernel) _ List.mem_cons_self, in_p [Cond.initialized RX2] [17] rfl (by decide +kernel) _ List.mem_cons_self, by decide, rfl, by decide +kernel⟩
set_option maxRecDepth 100000 in
theorem poX6_43 : Pok RX6 43 6 6 true (.object "SungSlides$Reader") true := ⟨RX6, TX6, 8, tyX6, rfl, by decide, in_u6, tyX6_ok, nmX6, in_p [Cond.fieldLink RX6 43 RX6 "reader" "LSungSlides$Reader;"] [174] (by decide +kernel) (by decide +kernel) _ List.mem_cons_self, rfl, rfl, by decide +kernel, rfl, by decide, fun _ => rfl⟩
set_option maxRecDepth 100000 in
theorem ckX6_49 : CkIN RX6 49 "SungSlides" yX1_init cX1_init 1 0 := ⟨in_p [.instanceMethod yX1_init, .initialized yX1_init.cls, .code yX1_init cX1_init 1 none] [126, 18, 127] rfl (by decide +kernel), rfl, ⟨by decide +kernel, by decide +kernel, by decide +kernel⟩, in_n _ 125 rfl rfl⟩
set_option maxRecDepth 100000 in
theorem noX6_47 : Nok RX6 47 1 := ⟨RX1, TX1, 12, tyX1, rfl, in_u1, tyX1_ok, in_p [Cond.classLink RX6 47 RX1] [123] rfl (by decide +kernel) _ List.mem_cons_self, in_p [Cond.instantiable RX1 12] [124] rfl (by decide +kernel) _ List.mem_cons_self, in_p [Cond.initialized RX1] [18] rfl (by decide +kernel) _ List.mem_cons_self, by decide, rfl, by decide +kernel⟩
set_option maxRecDepth 100000 in
theorem poX6_50 : Pok RX6 50 6 7 true (.object "SungSlides$Judge") true := ⟨RX6, TX6, 8, tyX6, rfl, by decide, in_u6, tyX6_ok, nmX6, in_p [Cond.fieldLink RX6 50 RX6 "judge" "LSungSlides$Judge;"] [175] (by decide +kernel) (by decide +kernel) _ List.mem_cons_self, rfl, rfl, by decide +kernel, rfl, by decide, fun _ => rfl⟩
set_option maxRecDepth 100000 in
theorem ckX6_54 : CkS RX6 54 yX6_isWithin cX6_isWithin 3 (some .boolean) 3 := ⟨in_p [.methodLink RX6 54 yX6_isWithin, .static yX6_isWithin, .initialized RX6, .code yX6_isWithin cX6_isWithin 3 (some .boolean)] [197, 198, 11, 199] rfl (by decide +kernel), rfl, ⟨by decide +kernel, by decide +kernel, by decide +kernel⟩⟩
set_option maxRecDepth 100000 in
theorem foX6_10 : Fok RX6 10 6 0 true := ⟨RX6, TX6, 8, rfl, by decide, in_u6, in_p [Cond.fieldLink RX6 10 RX6 "now" "LSungSlides$State;"] [168] (by decide +kernel) (by decide +kernel) _ List.mem_cons_self, rfl, rfl, by decide⟩
set_option maxRecDepth 100000 in
theorem foX6_58 : Fok RX6 58 4 0 true := ⟨RX4, TX4, 3, rfl, by decide, in_u4, in_p [Cond.fieldLink RX6 58 RX4 "song" "LSungSlides$Song;"] [67] (by decide +kernel) (by decide +kernel) _ List.mem_cons_self, rfl, rfl, by decide⟩
set_option maxRecDepth 100000 in
theorem ckX6_62 : CkV RX6 62 yX3_hasRoomFor cX3_hasRoomFor 3 (some .boolean) 2 := ⟨in_p [.methodLink RX6 62 yX3_hasRoomFor, .instanceMethod yX3_hasRoomFor, .selects yX3_hasRoomFor.cls yX3_hasRoomFor yX3_hasRoomFor, .initialized yX3_hasRoomFor.cls, .code yX3_hasRoomFor cX3_hasRoomFor 3 (some .boolean)] [524, 525, 526, 13, 527] rfl (by decide +kernel), ⟨by decide +kernel, by decide +kernel, by decide +kernel⟩⟩
set_option maxRecDepth 100000 in
theorem foX6_29 : Fok RX6 29 6 4 true := ⟨RX6, TX6, 8, rfl, by decide, in_u6, in_p [Cond.fieldLink RX6 29 RX6 "history" "LSungSlides$History;"] [172] (by decide +kernel) (by decide +kernel) _ List.mem_cons_self, rfl, rfl, by decide⟩
set_option maxRecDepth 100000 in
theorem ckX6_68 : CkV RX6 68 yX0_record cX0_record 2 none 1 := ⟨in_p [.methodLink RX6 68 yX0_record, .instanceMethod yX0_record, .selects yX0_record.cls yX0_record yX0_record, .initialized yX0_record.cls, .code yX0_record cX0_record 2 none] [507, 508, 509, 15, 510] rfl (by decide +kernel), ⟨by decide +kernel, by decide +kernel, by decide +kernel⟩⟩
set_option maxRecDepth 100000 in
theorem ckX6_72 : CkV RX6 72 yX3_append cX3_append 8 (some .int) 5 := ⟨in_p [.methodLink RX6 72 yX3_append, .instanceMethod yX3_append, .selects yX3_append.cls yX3_append yX3_append, .initialized yX3_append.cls, .code yX3_append cX3_append 8 (some .int)] [529, 530, 531, 13, 532] rfl (by decide +kernel), ⟨by decide +kernel, by decide +kernel, by decide +kernel⟩⟩
set_option maxRecDepth 100000 in
theorem ckX6_76 : CkV RX6 76 yX3_size cX3_size 1 (some .int) 0 := ⟨in_p [.methodLink RX6 76 yX3_size, .instanceMethod yX3_size, .selects yX3_size.cls yX3_size yX3_size, .initialized yX3_size.cls, .code yX3_size cX3_size 1 (some .int)] [207, 208, 209, 13, 210] rfl (by decide +kernel), ⟨by decide +kernel, by decide +kernel, by decide +kernel⟩⟩
set_option maxRecDepth 100000 in
theorem ckX6_80 : CkV RX6 80 yX3_removeLast cX3_removeLast 1 (some .int) 0 := ⟨in_p [.methodLink RX6 80 yX3_removeLast, .instanceMethod yX3_removeLast, .selects yX3_removeLast.cls yX3_removeLast yX3_removeLast, .initialized yX3_removeLast.cls, .code yX3_removeLast cX3_removeLast 1 (some .int)] [538, 539, 540, 13, 541] rfl (by decide +kernel), ⟨by decide +kernel, by decide +kernel, by decide +kernel⟩⟩
set_option maxRecDepth 100000 in
theorem ckX6_101 : CkS RX6 101 yX6_isSetting cX6_isSetting 1 (some .boolean) 1 := ⟨in_p [.methodLink RX6 101 yX6_isSetting, .static yX6_isSetting, .initialized RX6, .code yX6_isSetting cX6_isSetting 1 (some .boolean)] [200, 201, 11, 202] rfl (by decide +kernel), rfl, ⟨by decide +kernel, by decide +kernel, by decide +kernel⟩⟩
set_option maxRecDepth 100000 in
theorem ckX6_105 : CkS RX6 105 yX6_isValueOf cX6_isValueOf 2 (some .boolean) 2 := ⟨in_p [.methodLink RX6 105 yX6_isValueOf, .static yX6_isValueOf, .initialized RX6, .code yX6_isValueOf cX6_isValueOf 2 (some .boolean)] [488, 489, 11, 490] rfl (by decide +kernel), rfl, ⟨by decide +kernel, by decide +kernel, by decide +kernel⟩⟩
set_option maxRecDepth 100000 in
theorem ckX6_108 : CkV RX6 108 yX4_setting cX4_setting 2 (some .int) 1 := ⟨in_p [.methodLink RX6 108 yX4_setting, .instanceMethod yX4_setting, .selects yX4_setting.cls yX4_setting yX4_setting, .initialized yX4_setting.cls, .code yX4_setting cX4_setting 2 (some .int)] [203, 204, 205, 12, 206] rfl (by decide +kernel), ⟨by decide +kernel, by decide +kernel, by decide +kernel⟩⟩
set_option maxRecDepth 100000 in
theorem ckX6_112 : CkV RX6 112 yX4_change cX4_change 3 none 2 := ⟨in_p [.methodLink RX6 112 yX4_change, .instanceMethod yX4_change, .selects yX4_change.cls yX4_change yX4_change, .initialized yX4_change.cls, .code yX4_change cX4_change 3 none] [495, 496, 497, 12, 498] rfl (by decide +kernel), ⟨by decide +kernel, by decide +kernel, by decide +kernel⟩⟩
set_option maxRecDepth 100000 in
theorem ckX6_116 : CkS RX6 116 yX6_areTicks cX6_areTicks 3 (some .boolean) 3 := ⟨in_p [.methodLink RX6 116 yX6_areTicks, .static yX6_areTicks, .initialized RX6, .code yX6_areTicks cX6_areTicks 3 (some .boolean)] [557, 558, 11, 559] rfl (by decide +kernel), rfl, ⟨by decide +kernel, by decide +kernel, by decide +kernel⟩⟩
set_option maxRecDepth 100000 in
theorem ckX6_119 : CkV RX6 119 yX4_voice cX4_voice 5 none 3 := ⟨in_p [.methodLink RX6 119 yX4_voice, .instanceMethod yX4_voice, .selects yX4_voice.cls yX4_voice yX4_voice, .initialized yX4_voice.cls, .code yX4_voice cX4_voice 5 none] [560, 561, 562, 12, 563] rfl (by decide +kernel), ⟨by decide +kernel, by decide +kernel, by decide +kernel⟩⟩
set_option maxRecDepth 100000 in
theorem ckX6_123 : CkV RX6 123 yX6_hitsNow cX6_hitsNow 1 (some .int) 0 := ⟨in_p [.methodLink RX6 123 yX6_hitsNow, .instanceMethod yX6_hitsNow, .selects yX6_hitsNow.cls yX6_hitsNow yX6_hitsNow, .initialized yX6_hitsNow.cls, .code yX6_hitsNow cX6_hitsNow 1 (some .int)] [251, 253, 0, 11, 254] rfl (by decide +kernel), ⟨by decide +kernel, by decide +kernel, by decide +kernel⟩⟩
set_option maxRecDepth 100000 in
theorem ckX6_126 : CkV RX6 126 yX4_soundingTicks cX4_soundingTicks 3 (some .int) 0 := ⟨in_p [.methodLink RX6 126 yX4_soundingTicks, .instanceMethod yX4_soundingTicks, .selects yX4_soundingTicks.cls yX4_soundingTicks yX4_soundingTicks, .initialized yX4_soundingTicks.cls, .code yX4_soundingTicks cX4_soundingTicks 3 (some .int)] [235, 236, 237, 12, 238] rfl (by decide +kernel), ⟨by decide +kernel, by decide +kernel, by decide +kernel⟩⟩
set_option maxRecDepth 100000 in
theorem ckX6_129 : CkV RX6 129 yX3_has cX3_has 2 (some .boolean) 1 := ⟨in_p [.methodLink RX6 129 yX3_has, .instanceMethod yX3_has, .selects yX3_has.cls yX3_has yX3_has, .initialized yX3_has.cls, .code yX3_has cX3_has 2 (some .boolean)] [410, 220, 221, 13, 222] rfl (by decide +kernel), ⟨by decide +kernel, by decide +kernel, by decide +kernel⟩⟩
set_option maxRecDepth 100000 in
theorem ckX6_132 : CkV RX6 132 yX4_voiceAsWanted cX4_voiceAsWanted 5 none 2 := ⟨in_p [.methodLink RX6 132 yX4_voiceAsWanted, .instanceMethod yX4_voiceAsWanted, .selects yX4_voiceAsWanted.cls yX4_voiceAsWanted yX4_voiceAsWanted, .initialized yX4_voiceAsWanted.cls, .code yX4_voiceAsWanted cX4_voiceAsWanted 5 none] [546, 547, 548, 12, 549] rfl (by decide +kernel), ⟨by decide +kernel, by decide +kernel, by decide +kernel⟩⟩
set_option maxRecDepth 100000 in
theorem ckX6_145 : CkV RX6 145 yX0_size cX0_size 1 (some .int) 0 := ⟨in_p [.methodLink RX6 145 yX0_size, .instanceMethod yX0_size, .selects yX0_size.cls yX0_size yX0_size, .initialized yX0_size.cls, .code yX0_size cX0_size 1 (some .int)] [364, 365, 366, 15, 367] rfl (by decide +kernel), ⟨by decide +kernel, by decide +kernel, by decide +kernel⟩⟩
set_option maxRecDepth 100000 in
theorem ckX6_146 : CkV RX6 146 yX0_takeBackInto cX0_takeBackInto 2 (some .int) 1 := ⟨in_p [.methodLink RX6 146 yX0_takeBackInto, .instanceMethod yX0_takeBackInto, .selects yX0_takeBackInto.cls yX0_takeBackInto yX0_takeBackInto, .initialized yX0_takeBackInto.cls, .code yX0_takeBackInto cX0_takeBackInto 2 (some .int)] [575, 576, 577, 15, 578] rfl (by decide +kernel), ⟨by decide +kernel, by decide +kernel, by decide +kernel⟩⟩
set_option maxRecDepth 100000 in
theorem foX6_50 : Fok RX6 50 6 7 true := ⟨RX6, TX6, 8, rfl, by decide, in_u6, in_p [Cond.fieldLink RX6 50 RX6 "judge" "LSungSlides$Judge;"] [175] (by decide +kernel) (by decide +kernel) _ List.mem_cons_self, rfl, rfl, by decide⟩
set_option maxRecDepth 100000 in
theorem ckX6_152 : CkV RX6 152 yX1_judge cX1_judge 3 none 1 := ⟨in_p [.methodLink RX6 152 yX1_judge, .instanceMethod yX1_judge, .selects yX1_judge.cls yX1_judge yX1_judge, .initialized yX1_judge.cls, .code yX1_judge cX1_judge 3 none] [255, 256, 257, 18, 258] rfl (by decide +kernel), ⟨by decide +kernel, by decide +kernel, by decide +kernel⟩⟩
set_option maxRecDepth 100000 in
theorem ckX6_154 : CkV RX6 154 yX3_beginningOf cX3_beginningOf 2 (some .int) 1 := ⟨in_p [.methodLink RX6 154 yX3_beginningOf, .instanceMethod yX3_beginningOf, .selects yX3_beginningOf.cls yX3_beginningOf yX3_beginningOf, .initialized yX3_beginningOf.cls, .code yX3_beginningOf cX3_beginningOf 2 (some .int)] [411, 228, 229, 13, 230] rfl (by decide +kernel), ⟨by decide +kernel, by decide +kernel, by decide +kernel⟩⟩
set_option maxRecDepth 100000 in
theorem ckX6_157 : CkV RX6 157 yX3_lengthOf cX3_lengthOf 2 (some .int) 1 := ⟨in_p [.methodLink RX6 157 yX3_lengthOf, .instanceMethod yX3_lengthOf, .selects yX3_lengthOf.cls yX3_lengthOf yX3_lengthOf, .initialized yX3_lengthOf.cls, .code yX3_lengthOf cX3_lengthOf 2 (some .int)] [412, 232, 233, 13, 234] rfl (by decide +kernel), ⟨by decide +kernel, by decide +kernel, by decide +kernel⟩⟩
set_option maxRecDepth 100000 in
theorem ckX6_160 : CkV RX6 160 yX3_pitchOf cX3_pitchOf 2 (some .int) 1 := ⟨in_p [.methodLink RX6 160 yX3_pitchOf, .instanceMethod yX3_pitchOf, .selects yX3_pitchOf.cls yX3_pitchOf yX3_pitchOf, .initialized yX3_pitchOf.cls, .code yX3_pitchOf cX3_pitchOf 2 (some .int)] [413, 274, 275, 13, 276] rfl (by decide +kernel), ⟨by decide +kernel, by decide +kernel, by decide +kernel⟩⟩
set_option maxRecDepth 100000 in
theorem ckX6_163 : CkV RX6 163 yX3_endPitchOf cX3_endPitchOf 2 (some .int) 1 := ⟨in_p [.methodLink RX6 163 yX3_endPitchOf, .instanceMethod yX3_endPitchOf, .selects yX3_endPitchOf.cls yX3_endPitchOf yX3_endPitchOf, .initialized yX3_endPitchOf.cls, .code yX3_endPitchOf cX3_endPitchOf 2 (some .int)] [414, 278, 279, 13, 280] rfl (by decide +kernel), ⟨by decide +kernel, by decide +kernel, by decide +kernel⟩⟩
set_option maxRecDepth 100000 in
theorem ckX6_166 : CkV RX6 166 yX3_phraseOf cX3_phraseOf 2 (some .int) 1 := ⟨in_p [.methodLink RX6 166 yX3_phraseOf, .instanceMethod yX3_phraseOf, .selects yX3_phraseOf.cls yX3_phraseOf yX3_phraseOf, .initialized yX3_phraseOf.cls, .code yX3_phraseOf cX3_phraseOf 2 (some .int)] [415, 216, 217, 13, 218] rfl (by decide +kernel), ⟨by decide +kernel, by decide +kernel, by decide +kernel⟩⟩
set_option maxRecDepth 100000 in
theorem ckX6_169 : CkV RX6 169 yX3_barLinesOf cX3_barLinesOf 5 (some .int) 2 := ⟨in_p [.methodLink RX6 169 yX3_barLinesOf, .instanceMethod yX3_barLinesOf, .selects yX3_barLinesOf.cls yX3_barLinesOf yX3_barLinesOf, .initialized yX3_barLinesOf.cls, .code yX3_barLinesOf cX3_barLinesOf 5 (some .int)] [416, 361, 362, 13, 363] rfl (by decide +kernel), ⟨by decide +kernel, by decide +kernel, by decide +kernel⟩⟩
set_option maxRecDepth 100000 in
theorem ckX6_173 : CkV RX6 173 yX1_matchesOf cX1_matchesOf 2 (some .int) 1 := ⟨in_p [.methodLink RX6 173 yX1_matchesOf, .instanceMethod yX1_matchesOf, .selects yX1_matchesOf.cls yX1_matchesOf yX1_matchesOf, .initialized yX1_matchesOf.cls, .code yX1_matchesOf cX1_matchesOf 2 (some .int)] [417, 304, 305, 18, 306] rfl (by decide +kernel), ⟨by decide +kernel, by decide +kernel, by decide +kernel⟩⟩
set_option maxRecDepth 100000 in
theorem ckX6_176 : CkV RX6 176 yX1_shareOf cX1_shareOf 2 (some .int) 1 := ⟨in_p [.methodLink RX6 176 yX1_shareOf, .instanceMethod yX1_shareOf, .selects yX1_shareOf.cls yX1_shareOf yX1_shareOf, .initialized yX1_shareOf.cls, .code yX1_shareOf cX1_shareOf 2 (some .int)] [418, 315, 316, 18, 317] rfl (by decide +kernel), ⟨by decide +kernel, by decide +kernel, by decide +kernel⟩⟩
set_option maxRecDepth 100000 in
theorem ckX6_179 : CkV RX6 179 yX1_onsetOf cX1_onsetOf 2 (some .int) 1 := ⟨in_p [.methodLink RX6 179 yX1_onsetOf, .instanceMethod yX1_onsetOf, .selects yX1_onsetOf.cls yX1_onsetOf yX1_onsetOf, .initialized yX1_onsetOf.cls, .code yX1_onsetOf cX1_onsetOf 2 (some .int)] [419, 311, 312, 18, 313] rfl (by decide +kernel), ⟨by decide +kernel, by decide +kernel, by decide +kernel⟩⟩
set_option maxRecDepth 100000 in
theorem ckX6_182 : CkV RX6 182 yX1_reasonOf cX1_reasonOf 2 (some .int) 1 := ⟨in_p [.methodLink RX6 182 yX1_reasonOf, .instanceMethod yX1_reasonOf, .selects yX1_reasonOf.cls yX1_reasonOf yX1_reasonOf, .initialized yX1_reasonOf.cls, .code yX1_reasonOf cX1_reasonOf 2 (some .int)] [420, 421, 422, 18, 423] rfl (by decide +kernel), ⟨by decide +kernel, by decide +kernel, by decide +kernel⟩⟩
set_option maxRecDepth 100000 in
theorem ckX6_185 : CkV RX6 185 yX1_pointsOf cX1_pointsOf 2 (some .int) 1 := ⟨in_p [.methodLink RX6 185 yX1_pointsOf, .instanceMethod yX1_pointsOf, .selects yX1_pointsOf.cls yX1_pointsOf yX1_pointsOf, .initialized yX1_pointsOf.cls, .code yX1_pointsOf cX1_pointsOf 2 (some .int)] [424, 425, 426, 18, 427] rfl (by decide +kernel), ⟨by decide +kernel, by decide +kernel, by decide +kernel⟩⟩
set_option maxRecDepth 100000 in
theorem ckX6_188 : CkV RX6 188 yX1_rowAheadOf cX1_rowAheadOf 2 (some .int) 1 := ⟨in_p [.methodLink RX6 188 yX1_rowAheadOf, .instanceMethod yX1_rowAheadOf, .selects yX1_rowAheadOf.cls yX1_rowAheadOf yX1_rowAheadOf, .initialized yX1_rowAheadOf.cls, .code yX1_rowAheadOf cX1_rowAheadOf 2 (some .int)] [428, 429, 430, 18, 431] rfl (by decide +kernel), ⟨by decide +kernel, by decide +kernel, by decide +kernel⟩⟩
set_option maxRecDepth 100000 in
theorem ckX6_191 : CkV RX6 191 yX3_wantedOf cX3_wantedOf 5 (some .int) 2 := ⟨in_p [.methodLink RX6 191 yX3_wantedOf, .instanceMethod yX3_wantedOf, .selects yX3_wantedOf.cls yX3_wantedOf yX3_wantedOf, .initialized yX3_wantedOf.cls, .code yX3_wantedOf cX3_wantedOf 5 (some .int)] [445, 270, 271, 13, 272] rfl (by decide +kernel), ⟨by decide +kernel, by decide +kernel, by decide +kernel⟩⟩
set_option maxRecDepth 100000 in
theorem ckX6_194 : CkV RX6 194 yX4_sungAt cX4_sungAt 2 (some .int) 1 := ⟨in_p [.methodLink RX6 194 yX4_sungAt, .instanceMethod yX4_sungAt, .selects yX4_sungAt.cls yX4_sungAt yX4_sungAt, .initialized yX4_sungAt.cls, .code yX4_sungAt cX4_sungAt 2 (some .int)] [450, 240, 241, 12, 242] rfl (by decide +kernel), ⟨by decide +kernel, by decide +kernel, by decide +kernel⟩⟩
set_option maxRecDepth 100000 in
theorem maX6_197 : ∀ w ∈ ([.methodLink RX6 197 Lib.Math.min.name, .static Lib.Math.min.name, .initialized "java/lang/Math", .code Lib.Math.min.name Lib.Math.min.code 2 (some .int)] : List Cond), w ∈ gtb := in_p [.methodLink RX6 197 Lib.Math.min.name, .static Lib.Math.min.name, .initialized "java/lang/Math", .code Lib.Math.min.name Lib.Math.min.code 2 (some .int)] [439, 290, 19, 291] rfl (by decide +kernel)
set_option maxRecDepth 100000 in
theorem maX6_202 : ∀ w ∈ ([.methodLink RX6 202 Lib.Math.max.name, .static Lib.Math.max.name, .initialized "java/lang/Math", .code Lib.Math.max.name Lib.Math.max.code 2 (some .int)] : List Cond), w ∈ gtb := in_p [.methodLink RX6 202 Lib.Math.max.name, .static Lib.Math.max.name, .initialized "java/lang/Math", .code Lib.Math.max.name Lib.Math.max.code 2 (some .int)] [440, 338, 19, 339] rfl (by decide +kernel)
set_option maxRecDepth 100000 in
theorem ckX6_205 : CkV RX6 205 yX3_phraseCount cX3_phraseCount 1 (some .int) 0 := ⟨in_p [.methodLink RX6 205 yX3_phraseCount, .instanceMethod yX3_phraseCount, .selects yX3_phraseCount.cls yX3_phraseCount yX3_phraseCount, .initialized yX3_phraseCount.cls, .code yX3_phraseCount cX3_phraseCount 1 (some .int)] [211, 212, 213, 13, 214] rfl (by decide +kernel), ⟨by decide +kernel, by decide +kernel, by decide +kernel⟩⟩
set_option maxRecDepth 100000 in
theorem ckX6_208 : CkV RX6 208 yX3_firstOfPhrase cX3_firstOfPhrase 3 (some .int) 1 := ⟨in_p [.methodLink RX6 208 yX3_firstOfPhrase, .instanceMethod yX3_firstOfPhrase, .selects yX3_firstOfPhrase.cls yX3_firstOfPhrase yX3_firstOfPhrase, .initialized yX3_firstOfPhrase.cls, .code yX3_firstOfPhrase cX3_firstOfPhrase 3 (some .int)] [463, 464, 465, 13, 466] rfl (by decide +kernel), ⟨by decide +kernel, by decide +kernel, by decide +kernel⟩⟩
set_option maxRecDepth 100000 in
theorem ckX6_211 : CkV RX6 211 yX3_sizeOfPhrase cX3_sizeOfPhrase 4 (some .int) 1 := ⟨in_p [.methodLink RX6 211 yX3_sizeOfPhrase, .instanceMethod yX3_sizeOfPhrase, .selects yX3_sizeOfPhrase.cls yX3_sizeOfPhrase yX3_sizeOfPhrase, .initialized yX3_sizeOfPhrase.cls, .code yX3_sizeOfPhrase cX3_sizeOfPhrase 4 (some .int)] [467, 342, 343, 13, 344] rfl (by decide +kernel), ⟨by decide +kernel, by decide +kernel, by decide +kernel⟩⟩
set_option maxRecDepth 100000 in
theorem ckX6_214 : CkV RX6 214 yX1_phraseHitsOf cX1_phraseHitsOf 2 (some .int) 1 := ⟨in_p [.methodLink RX6 214 yX1_phraseHitsOf, .instanceMethod yX1_phraseHitsOf, .selects yX1_phraseHitsOf.cls yX1_phraseHitsOf yX1_phraseHitsOf, .initialized yX1_phraseHitsOf.cls, .code yX1_phraseHitsOf cX1_phraseHitsOf 2 (some .int)] [468, 469, 470, 18, 471] rfl (by decide +kernel), ⟨by decide +kernel, by decide +kernel, by decide +kernel⟩⟩
set_option maxRecDepth 100000 in
theorem ckX6_217 : CkV RX6 217 yX1_phrasePointsOf cX1_phrasePointsOf 2 (some .int) 1 := ⟨in_p [.methodLink RX6 217 yX1_phrasePointsOf, .instanceMethod yX1_phrasePointsOf, .selects yX1_phrasePointsOf.cls yX1_phrasePointsOf yX1_phrasePointsOf, .initialized yX1_phrasePointsOf.cls, .code yX1_phrasePointsOf cX1_phrasePointsOf 2 (some .int)] [455, 456, 457, 18, 458] rfl (by decide +kernel), ⟨by decide +kernel, by decide +kernel, by decide +kernel⟩⟩
set_option maxRecDepth 100000 in
theorem ckX6_220 : CkV RX6 220 yX1_longestRowOf cX1_longestRowOf 2 (some .int) 1 := ⟨in_p [.methodLink RX6 220 yX1_longestRowOf, .instanceMethod yX1_longestRowOf, .selects yX1_longestRowOf.cls yX1_longestRowOf yX1_longestRowOf, .initialized yX1_longestRowOf.cls, .code yX1_longestRowOf cX1_longestRowOf 2 (some .int)] [472, 473, 474, 18, 475] rfl (by decide +kernel), ⟨by decide +kernel, by decide +kernel, by decide +kernel⟩⟩
set_option maxRecDepth 100000 in
theorem ckX6_223 : CkV RX6 223 yX3_ticks cX3_ticks 1 (some .int) 0 := ⟨in_p [.methodLink RX6 223 yX3_ticks, .instanceMethod yX3_ticks, .selects yX3_ticks.cls yX3_ticks yX3_ticks, .initialized yX3_ticks.cls, .code yX3_ticks cX3_ticks 1 (some .int)] [223, 224, 225, 13, 226] rfl (by decide +kernel), ⟨by decide +kernel, by decide +kernel, by decide +kernel⟩⟩
set_option maxRecDepth 100000 in
theorem ckX6_226 : CkV RX6 226 yX4_onsets cX4_onsets 3 (some .int) 0 := ⟨in_p [.methodLink RX6 226 yX4_onsets, .instanceMethod yX4_onsets, .selects yX4_onsets.cls yX4_onsets yX4_onsets, .initialized yX4_onsets.cls, .code yX4_onsets cX4_onsets 3 (some .int)] [243, 244, 245, 12, 246] rfl (by decide +kernel), ⟨by decide +kernel, by decide +kernel, by decide +kernel⟩⟩
set_option maxRecDepth 100000 in
theorem ckX6_229 : CkV RX6 229 yX6_pointsOf cX6_pointsOf 2 (some .int) 1 := ⟨in_p [.methodLink RX6 229 yX6_pointsOf, .instanceMethod yX6_pointsOf, .selects yX6_pointsOf.cls yX6_pointsOf yX6_pointsOf, .initialized yX6_pointsOf.cls, .code yX6_pointsOf cX6_pointsOf 2 (some .int)] [348, 350, 6, 11, 351] rfl (by decide +kernel), ⟨by decide +kernel, by decide +kernel, by decide +kernel⟩⟩
set_option maxRecDepth 100000 in
theorem ckX6_231 : CkV RX6 231 yX6_mostPoints cX6_mostPoints 1 (some .int) 0 := ⟨in_p [.methodLink RX6 231 yX6_mostPoints, .instanceMethod yX6_mostPoints, .selects yX6_mostPoints.cls yX6_mostPoints yX6_mostPoints, .initialized yX6_mostPoints.cls, .code yX6_mostPoints cX6_mostPoints 1 (some .int)] [352, 354, 7, 11, 355] rfl (by decide +kernel), ⟨by decide +kernel, by decide +kernel, by decide +kernel⟩⟩
set_option maxRecDepth 100000 in
theorem foX6_36 : Fok RX6 36 6 5 true := ⟨RX6, TX6, 8, rfl, by decide, in_u6, in_p [Cond.fieldLink RX6 36 RX6 "text" "LSungSlides$Text;"] [173] (by decide +kernel) (by decide +kernel) _ List.mem_cons_self, rfl, rfl, by decide⟩
set_option maxRecDepth 100000 in
theorem ckX6_234 : CkV RX6 234 yX5_size cX5_size 1 (some .int) 0 := ⟨in_p [.methodLink RX6 234 yX5_size, .instanceMethod yX5_size, .selects yX5_size.cls yX5_size yX5_size, .initialized yX5_size.cls, .code yX5_size cX5_size 1 (some .int)] [368, 369, 370, 16, 371] rfl (by decide +kernel), ⟨by decide +kernel, by decide +kernel, by decide +kernel⟩⟩
set_option maxRecDepth 100000 in
theorem foX6_16 : Fok RX6 16 6 1 true := ⟨RX6, TX6, 8, rfl, by decide, in_u6, in_p [Cond.fieldLink RX6 16 RX6 "would" "LSungSlides$State;"] [169] (by decide +kernel) (by decide +kernel) _ List.mem_cons_self, rfl, rfl, by decide⟩
set_option maxRecDepth 100000 in
theorem ckX6_150 : CkV RX6 150 yX4_copyFrom cX4_copyFrom 2 none 1 := ⟨in_p [.methodLink RX6 150 yX4_copyFrom, .instanceMethod yX4_copyFrom, .selects yX4_copyFrom.cls yX4_copyFrom yX4_copyFrom, .initialized yX4_copyFrom.cls, .code yX4_copyFrom cX4_copyFrom 2 none] [376, 377, 378, 12, 379] rfl (by decide +kernel), ⟨by decide +kernel, by decide +kernel, by decide +kernel⟩⟩
set_option maxRecDepth 100000 in
theorem ckX6_235 : CkV RX6 235 yX6_pointsIfShifted cX6_pointsIfShifted 3 (some .int) 2 := ⟨in_p [.methodLink RX6 235 yX6_pointsIfShifted, .instanceMethod yX6_pointsIfShifted, .selects yX6_pointsIfShifted.cls yX6_pointsIfShifted yX6_pointsIfShifted, .initialized yX6_pointsIfShifted.cls, .code yX6_pointsIfShifted cX6_pointsIfShifted 3 (some .int)] [385, 387, 8, 11, 388] rfl (by decide +kernel), ⟨by decide +kernel, by decide +kernel, by decide +kernel⟩⟩
set_option maxRecDepth 100000 in
theorem gsX6_238 : Cond.fieldLink RX6 238 "SungSlides" (stN 1) "[I" ∈ gtb := in_p [Cond.fieldLink RX6 238 "SungSlides" (stN 1) "[I"] [491] rfl (by decide +kernel) _ List.mem_cons_self
set_option maxRecDepth 100000 in
theorem gsX6_242 : Cond.fieldLink RX6 242 "SungSlides" (stN 2) "[I" ∈ gtb := in_p [Cond.fieldLink RX6 242 "SungSlides" (stN 2) "[I"] [493] rfl (by decide +kernel) _ List.mem_cons_self
set_option maxRecDepth 100000 in
theorem foX6_245 : Fok RX6 245 1 10 false := ⟨RX1, TX1, 12, rfl, by decide, in_u1, in_p [Cond.fieldLink RX6 245 RX1 "hits" "I"] [140] (by decide +kernel) (by decide +kernel) _ List.mem_cons_self, rfl, rfl, by decide⟩
set_option maxRecDepth 100000 in
theorem foX6_248 : Fok RX6 248 1 11 false := ⟨RX1, TX1, 12, rfl, by decide, in_u1, in_p [Cond.fieldLink RX6 248 RX1 "points" "I"] [142] (by decide +kernel) (by decide +kernel) _ List.mem_cons_self, rfl, rfl, by decide⟩
set_option maxRecDepth 100000 in
theorem ckX6_251 : CkV RX6 251 yX1_judgePerfect cX1_judgePerfect 4 none 1 := ⟨in_p [.methodLink RX6 251 yX1_judgePerfect, .instanceMethod yX1_judgePerfect, .selects yX1_judgePerfect.cls yX1_judgePerfect yX1_judgePerfect, .initialized yX1_judgePerfect.cls, .code yX1_judgePerfect cX1_judgePerfect 4 none] [356, 357, 358, 18, 359] rfl (by decide +kernel), ⟨by decide +kernel, by decide +kernel, by decide +kernel⟩⟩
set_option maxRecDepth 100000 in
theorem ckX6_254 : CkV RX6 254 yX4_voiceShifted cX4_voiceShifted 6 none 3 := ⟨in_p [.methodLink RX6 254 yX4_voiceShifted, .instanceMethod yX4_voiceShifted, .selects yX4_voiceShifted.cls yX4_voiceShifted yX4_voiceShifted, .initialized yX4_voiceShifted.cls, .code yX4_voiceShifted cX4_voiceShifted 6 none] [389, 390, 391, 12, 392] rfl (by decide +kernel), ⟨by decide +kernel, by decide +kernel, by decide +kernel⟩⟩
set_option maxRecDepth 100000 in
theorem oiX3_3 : ∀ w ∈ ([.methodLink RX3 3 Lib.objectInit, .instanceMethod Lib.objectInit, .code Lib.objectInit ⟨#[0xb1]⟩ 1 none] : List Cond), w ∈ gtb := in_p [.methodLink RX3 3 Lib.objectInit, .instanceMethod Lib.objectInit, .code Lib.objectInit ⟨#[0xb1]⟩ 1 none] [39, 26, 27] rfl (by decide +kernel)
set_option maxRecDepth 100000 in
theorem ac_int : Cond.arrayClass .int ∈ gtb := in_p [Cond.arrayClass .int] [59] rfl (by decide +kernel) _ List.mem_cons_self
set_option maxRecDepth 100000 in
theorem poX3_9 : Pok RX3 9 3 0 true (.array .int) true := ⟨RX3, TX3, 6, tyX3, rfl, by decide, in_u3, tyX3_ok, nmX3, in_p [Cond.fieldLink RX3 9 RX3 "beginnings" "[I"] [40] (by decide +kernel) (by decide +kernel) _ List.mem_cons_self, rfl, rfl, by decide +kernel, rfl, by decide, fun _ => rfl⟩
set_option maxRecDepth 100000 in
theorem poX3_15 : Pok RX3 15 3 1 true (.array .int) true := ⟨RX3, TX3, 6, tyX3, rfl, by decide, in_u3, tyX3_ok, nmX3, in_p [Cond.fieldLink RX3 15 RX3 "lengths" "[I"] [41] (by decide +kernel) (by decide +kernel) _ List.mem_cons_self, rfl, rfl, by decide +kernel, rfl, by decide, fun _ => rfl⟩
set_option maxRecDepth 100000 in
theorem poX3_18 : Pok RX3 18 3 2 true (.array .int) true := ⟨RX3, TX3, 6, tyX3, rfl, by decide, in_u3, tyX3_ok, nmX3, in_p [Cond.fieldLink RX3 18 RX3 "pitches" "[I"] [42] (by decide +kernel) (by decide +kernel) _ List.mem_cons_self, rfl, rfl, by decide +kernel, rfl, by decide, fun _ => rfl⟩
set_option maxRecDepth 100000 in
theorem poX3_21 : Pok RX3 21 3 3 true (.array .int) true := ⟨RX3, TX3, 6, tyX3, rfl, by decide, in_u3, tyX3_ok, nmX3, in_p [Cond.fieldLink RX3 21 RX3 "endPitches" "[I"] [43] (by decide +kernel) (by decide +kernel) _ List.mem_cons_self, rfl, rfl, by decide +kernel, rfl, by decide, fun _ => rfl⟩
set_option maxRecDepth 100000 in
theorem poX3_24 : Pok RX3 24 3 4 true (.array .int) true := ⟨RX3, TX3, 6, tyX3, rfl, by decide, in_u3, tyX3_ok, nmX3, in_p [Cond.fieldLink RX3 24 RX3 "phrases" "[I"] [44] (by decide +kernel) (by decide +kernel) _ List.mem_cons_self, rfl, rfl, by decide +kernel, rfl, by decide, fun _ => rfl⟩
set_option maxRecDepth 100000 in
theorem poX3_27 : Pok RX3 27 3 5 false .int false := ⟨RX3, TX3, 6, tyX3, rfl, by decide, in_u3, tyX3_ok, nmX3, in_p [Cond.fieldLink RX3 27 RX3 "count" "I"] [45] (by decide +kernel) (by decide +kernel) _ List.mem_cons_self, rfl, rfl, by decide +kernel, rfl, by decide, fun _ => rfl⟩
set_option maxRecDepth 100000 in
theorem foX3_27 : Fok RX3 27 3 5 false := ⟨RX3, TX3, 6, rfl, by decide, in_u3, in_p [Cond.fieldLink RX3 27 RX3 "count" "I"] [45] (by decide +kernel) (by decide +kernel) _ List.mem_cons_self, rfl, rfl, by decide⟩
set_option maxRecDepth 100000 in
theorem ckX3_31 : CkV RX3 31 yX3_has cX3_has 2 (some .boolean) 1 := ⟨in_p [.methodLink RX3 31 yX3_has, .instanceMethod yX3_has, .selects yX3_has.cls yX3_has yX3_has, .initialized yX3_has.cls, .code yX3_has cX3_has 2 (some .boolean)] [219, 220, 221, 13, 222] rfl (by decide +kernel), ⟨by decide +kernel, by decide +kernel, by decide +kernel⟩⟩
set_option maxRecDepth 100000 in
theorem foX3_9 : Fok RX3 9 3 0 true := ⟨RX3, TX3, 6, rfl, by decide, in_u3, in_p [Cond.fieldLink RX3 9 RX3 "beginnings" "[I"] [40] (by decide +kernel) (by decide +kernel) _ List.mem_cons_self, rfl, rfl, by decide⟩
set_option maxRecDepth 100000 in
theorem foX3_15 : Fok RX3 15 3 1 true := ⟨RX3, TX3, 6, rfl, by decide, in_u3, in_p [Cond.fieldLink RX3 15 RX3 "lengths" "[I"] [41] (by decide +kernel) (by decide +kernel) _ List.mem_cons_self, rfl, rfl, by decide⟩
set_option maxRecDepth 100000 in
theorem foX3_18 : Fok RX3 18 3 2 true := ⟨RX3, TX3, 6, rfl, by decide, in_u3, in_p [Cond.fieldLink RX3 18 RX3 "pitches" "[I"] [42] (by decide +kernel) (by decide +kernel) _ List.mem_cons_self, rfl, rfl, by decide⟩
set_option maxRecDepth 100000 in
theorem foX3_21 : Fok RX3 21 3 3 true := ⟨RX3, TX3, 6, rfl, by decide, in_u3, in_p [Cond.fieldLink RX3 21 RX3 "endPitches" "[I"] [43] (by decide +kernel) (by decide +kernel) _ List.mem_cons_self, rfl, rfl, by decide⟩
set_option maxRecDepth 100000 in
theorem foX3_24 : Fok RX3 24 3 4 true := ⟨RX3, TX3, 6, rfl, by decide, in_u3, in_p [Cond.fieldLink RX3 24 RX3 "phrases" "[I"] [44] (by decide +kernel) (by decide +kernel) _ List.mem_cons_self, rfl, rfl, by decide⟩
set_option maxRecDepth 100000 in
theorem ckX3_35 : CkV RX3 35 yX3_beginningOf cX3_beginningOf 2 (some .int) 1 := ⟨in_p [.methodLink RX3 35 yX3_beginningOf, .instanceMethod yX3_beginningOf, .selects yX3_beginningOf.cls yX3_beginningOf yX3_beginningOf, .initialized yX3_beginningOf.cls, .code yX3_beginningOf cX3_beginningOf 2 (some .int)] [227, 228, 229, 13, 230] rfl (by decide +kernel), ⟨by decide +kernel, by decide +kernel, by decide +kernel⟩⟩
set_option maxRecDepth 100000 in
theorem ckX3_39 : CkV RX3 39 yX3_lengthOf cX3_lengthOf 2 (some .int) 1 := ⟨in_p [.methodLink RX3 39 yX3_lengthOf, .instanceMethod yX3_lengthOf, .selects yX3_lengthOf.cls yX3_lengthOf yX3_lengthOf, .initialized yX3_lengthOf.cls, .code yX3_lengthOf cX3_lengthOf 2 (some .int)] [231, 232, 233, 13, 234] rfl (by decide +kernel), ⟨by decide +kernel, by decide +kernel, by decide +kernel⟩⟩
set_option maxRecDepth 100000 in
theorem ckX3_42 : CkV RX3 42 yX3_phraseOf cX3_phraseOf 2 (some .int) 1 := ⟨in_p [.methodLink RX3 42 yX3_phraseOf, .instanceMethod yX3_phraseOf, .selects yX3_phraseOf.cls yX3_phraseOf yX3_phraseOf, .initialized yX3_phraseOf.cls, .code yX3_phraseOf cX3_phraseOf 2 (some .int)] [215, 216, 217, 13, 218] rfl (by decide +kernel), ⟨by decide +kernel, by decide +kernel, by decide +kernel⟩⟩
set_option maxRecDepth 100000 in
theorem ckX3_45 : CkV RX3 45 yX3_pitchOf cX3_pitchOf 2 (some .int) 1 := ⟨in_p [.methodLink RX3 45 yX3_pitchOf, .instanceMethod yX3_pitchOf, .selects yX3_pitchOf.cls yX3_pitchOf yX3_pitchOf, .initialized yX3_pitchOf.cls, .code yX3_pitchOf cX3_pitchOf 2 (some .int)] [273, 274, 275, 13, 276] rfl (by decide +kernel), ⟨by decide +kernel, by decide +kernel, by decide +kernel⟩⟩
set_option maxRecDepth 100000 in
theorem ckX3_48 : CkV RX3 48 yX3_endPitchOf cX3_endPitchOf 2 (some .int) 1 := ⟨in_p [.methodLink RX3 48 yX3_endPitchOf, .instanceMethod yX3_endPitchOf, .selects yX3_endPitchOf.cls yX3_endPitchOf yX3_endPitchOf, .initialized yX3_endPitchOf.cls, .code yX3_endPitchOf cX3_endPitchOf 2 (some .int)] [277, 278, 279, 13, 280] rfl (by decide +kernel), ⟨by decide +kernel, by decide +kernel, by decide +kernel⟩⟩
set_option maxRecDepth 100000 in
theorem ckX3_51 : CkV RX3 51 yX3_ticks cX3_ticks 1 (some .int) 0 := ⟨in_p [.methodLink RX3 51 yX3_ticks, .instanceMethod yX3_ticks, .selects yX3_ticks.cls yX3_ticks yX3_ticks, .initialized yX3_ticks.cls, .code yX3_ticks cX3_ticks 1 (some .int)] [528, 224, 225, 13, 226] rfl (by decide +kernel), ⟨by decide +kernel, by decide +kernel, by decide +kernel⟩⟩
set_option maxRecDepth 100000 in
theorem ckX3_55 : CkV RX3 55 yX3_phraseCount cX3_phraseCount 1 (some .int) 0 := ⟨in_p [.methodLink RX3 55 yX3_phraseCount, .instanceMethod yX3_phraseCount, .selects yX3_phraseCount.cls yX3_phraseCount yX3_phraseCount, .initialized yX3_phraseCount.cls, .code yX3_phraseCount cX3_phraseCount 1 (some .int)] [533, 212, 213, 13, 214] rfl (by decide +kernel), ⟨by decide +kernel, by decide +kernel, by decide +kernel⟩⟩
set_option maxRecDepth 100000 in
theorem coX3_58 : ∀ w ∈ ([.methodLink RX3 58 arraycopyName, .native arraycopyName, .static arraycopyName, .initialized "java/lang/System"] : List Cond), w ∈ gtb := in_p [.methodLink RX3 58 arraycopyName, .native arraycopyName, .static arraycopyName, .initialized "java/lang/System"] [384, 64, 63, 14] rfl (by decide +kernel)
set_option maxRecDepth 100000 in
theorem oiX4_3 : ∀ w ∈ ([.methodLink RX4 3 Lib.objectInit, .instanceMethod Lib.objectInit, .code Lib.objectInit ⟨#[0xb1]⟩ 1 none] : List Cond), w ∈ gtb := in_p [.methodLink RX4 3 Lib.objectInit, .instanceMethod Lib.objectInit, .code Lib.objectInit ⟨#[0xb1]⟩ 1 none] [33, 26, 27] rfl (by decide +kernel)
set_option maxRecDepth 100000 in
theorem ckX4_11 : CkIN RX4 11 "SungSlides" yX3_init cX3_init 1 0 := ⟨in_p [.instanceMethod yX3_init, .initialized yX3_init.cls, .code yX3_init cX3_init 1 none] [37, 13, 38] rfl (by decide +kernel), rfl, ⟨by decide +kernel, by decide +kernel, by decide +kernel⟩, in_n _ 36 rfl rfl⟩
set_option maxRecDepth 100000 in
theorem noX4_9 : Nok RX4 9 3 := ⟨RX3, TX3, 6, tyX3, rfl, in_u3, tyX3_ok, in_p [Cond.classLink RX4 9 RX3] [34] rfl (by decide +kernel) _ List.mem_cons_self, in_p [Cond.instantiable RX3 6] [35] rfl (by decide +kernel) _ List.mem_cons_self, in_p [Cond.initialized RX3] [13] rfl (by decide +kernel) _ List.mem_cons_self, by decide, rfl, by decide +kernel⟩
set_option maxRecDepth 100000 in
theorem poX4_12 : Pok RX4 12 4 0 true (.object "SungSlides$Song") true := ⟨RX4, TX4, 3, tyX4, rfl, by decide, in_u4, tyX4_ok, nmX4, in_p [Cond.fieldLink RX4 12 RX4 "song" "LSungSlides$Song;"] [65] (by decide +kernel) (by decide +kernel) _ List.mem_cons_self, rfl, rfl, by decide +kernel, rfl, by decide, fun _ => rfl⟩
set_option maxRecDepth 100000 in
theorem poX4_18 : Pok RX4 18 4 1 true (.array .int) true := ⟨RX4, TX4, 3, tyX4, rfl, by decide, in_u4, tyX4_ok, nmX4, in_p [Cond.fieldLink RX4 18 RX4 "settings" "[I"] [68] (by decide +kernel) (by decide +kernel) _ List.mem_cons_self, rfl, rfl, by decide +kernel, rfl, by decide, fun _ => rfl⟩
set_option maxRecDepth 100000 in
theorem poX4_22 : Pok RX4 22 4 2 true (.array .int) true := ⟨RX4, TX4, 3, tyX4, rfl, by decide, in_u4, tyX4_ok, nmX4, in_p [Cond.fieldLink RX4 22 RX4 "pitches" "[I"] [69] (by decide +kernel) (by decide +kernel) _ List.mem_cons_self, rfl, rfl, by decide +kernel, rfl, by decide, fun _ => rfl⟩
set_option maxRecDepth 100000 in
theorem foX4_18 : Fok RX4 18 4 1 true := ⟨RX4, TX4, 3, rfl, by decide, in_u4, in_p [Cond.fieldLink RX4 18 RX4 "settings" "[I"] [68] (by decide +kernel) (by decide +kernel) _ List.mem_cons_self, rfl, rfl, by decide⟩
set_option maxRecDepth 100000 in
theorem coX4_28 : ∀ w ∈ ([.methodLink RX4 28 arraycopyName, .native arraycopyName, .static arraycopyName, .initialized "java/lang/System"] : List Cond), w ∈ gtb := in_p [.methodLink RX4 28 arraycopyName, .native arraycopyName, .static arraycopyName, .initialized "java/lang/System"] [62, 64, 63, 14] rfl (by decide +kernel)
set_option maxRecDepth 100000 in
theorem gnX4_25 : Cond.fieldLinkNest RX4 25 "SungSlides" (stN 0) "[I" "SungSlides" ∈ nestW := in_n _ 60 rfl rfl
set_option maxRecDepth 100000 in
theorem foX4_22 : Fok RX4 22 4 2 true := ⟨RX4, TX4, 3, rfl, by decide, in_u4, in_p [Cond.fieldLink RX4 22 RX4 "pitches" "[I"] [69] (by decide +kernel) (by decide +kernel) _ List.mem_cons_self, rfl, rfl, by decide⟩
set_option maxRecDepth 100000 in
theorem foX4_12 : Fok RX4 12 4 0 true := ⟨RX4, TX4, 3, rfl, by decide, in_u4, in_p [Cond.fieldLink RX4 12 RX4 "song" "LSungSlides$Song;"] [65] (by decide +kernel) (by decide +kernel) _ List.mem_cons_self, rfl, rfl, by decide⟩
set_option maxRecDepth 100000 in
theorem ckX4_34 : CkV RX4 34 yX3_copyFrom cX3_copyFrom 2 none 1 := ⟨in_p [.methodLink RX4 34 yX3_copyFrom, .instanceMethod yX3_copyFrom, .selects yX3_copyFrom.cls yX3_copyFrom yX3_copyFrom, .initialized yX3_copyFrom.cls, .code yX3_copyFrom cX3_copyFrom 2 none] [380, 381, 382, 13, 383] rfl (by decide +kernel), ⟨by decide +kernel, by decide +kernel, by decide +kernel⟩⟩
set_option maxRecDepth 100000 in
theorem ckX4_38 : CkN RX4 38 "SungSlides" yX6_isWithin cX6_isWithin 3 (some .boolean) 3 := ⟨in_p [.static yX6_isWithin, .initialized yX6_isWithin.cls, .code yX6_isWithin cX6_isWithin 3 (some .boolean)] [198, 11, 199] rfl (by decide +kernel), ⟨by decide +kernel, by decide +kernel, by decide +kernel⟩, in_n _ 397 rfl rfl⟩
set_option maxRecDepth 100000 in
theorem ckX4_42 : CkV RX4 42 yX4_voiceAt cX4_voiceAt 3 none 2 := ⟨in_p [.methodLink RX4 42 yX4_voiceAt, .instanceMethod yX4_voiceAt, .selects yX4_voiceAt.cls yX4_voiceAt yX4_voiceAt, .initialized yX4_voiceAt.cls, .code yX4_voiceAt cX4_voiceAt 3 none] [393, 394, 395, 12, 396] rfl (by decide +kernel), ⟨by decide +kernel, by decide +kernel, by decide +kernel⟩⟩
set_option maxRecDepth 100000 in
theorem ckX4_46 : CkV RX4 46 yX3_beginningOf cX3_beginningOf 2 (some .int) 1 := ⟨in_p [.methodLink RX4 46 yX3_beginningOf, .instanceMethod yX3_beginningOf, .selects yX3_beginningOf.cls yX3_beginningOf yX3_beginningOf, .initialized yX3_beginningOf.cls, .code yX3_beginningOf cX3_beginningOf 2 (some .int)] [550, 228, 229, 13, 230] rfl (by decide +kernel), ⟨by decide +kernel, by decide +kernel, by decide +kernel⟩⟩
set_option maxRecDepth 100000 in
theorem ckX4_50 : CkV RX4 50 yX3_lengthOf cX3_lengthOf 2 (some .int) 1 := ⟨in_p [.methodLink RX4 50 yX3_lengthOf, .instanceMethod yX3_lengthOf, .selects yX3_lengthOf.cls yX3_lengthOf yX3_lengthOf, .initialized yX3_lengthOf.cls, .code yX3_lengthOf cX3_lengthOf 2 (some .int)] [551, 232, 233, 13, 234] rfl (by decide +kernel), ⟨by decide +kernel, by decide +kernel, by decide +kernel⟩⟩
set_option maxRecDepth 100000 in
theorem ckX4_53 : CkV RX4 53 yX3_wantedOf cX3_wantedOf 5 (some .int) 2 := ⟨in_p [.methodLink RX4 53 yX3_wantedOf, .instanceMethod yX3_wantedOf, .selects yX3_wantedOf.cls yX3_wantedOf yX3_wantedOf, .initialized yX3_wantedOf.cls, .code yX3_wantedOf cX3_wantedOf 5 (some .int)] [552, 270, 271, 13, 272] rfl (by decide +kernel), ⟨by decide +kernel, by decide +kernel, by decide +kernel⟩⟩
set_option maxRecDepth 100000 in
theorem ckX4_57 : CkV RX4 57 yX4_sungAt cX4_sungAt 2 (some .int) 1 := ⟨in_p [.methodLink RX4 57 yX4_sungAt, .instanceMethod yX4_sungAt, .selects yX4_sungAt.cls yX4_sungAt yX4_sungAt, .initialized yX4_sungAt.cls, .code yX4_sungAt cX4_sungAt 2 (some .int)] [239, 240, 241, 12, 242] rfl (by decide +kernel), ⟨by decide +kernel, by decide +kernel, by decide +kernel⟩⟩
set_option maxRecDepth 100000 in
theorem ckX4_60 : CkV RX4 60 yX4_isOnset cX4_isOnset 2 (some .boolean) 1 := ⟨in_p [.methodLink RX4 60 yX4_isOnset, .instanceMethod yX4_isOnset, .selects yX4_isOnset.cls yX4_isOnset yX4_isOnset, .initialized yX4_isOnset.cls, .code yX4_isOnset cX4_isOnset 2 (some .boolean)] [247, 248, 249, 12, 250] rfl (by decide +kernel), ⟨by decide +kernel, by decide +kernel, by decide +kernel⟩⟩
set_option maxRecDepth 100000 in
theorem ckX4_64 : CkV RX4 64 yX4_setting cX4_setting 2 (some .int) 1 := ⟨in_p [.methodLink RX4 64 yX4_setting, .instanceMethod yX4_setting, .selects yX4_setting.cls yX4_setting yX4_setting, .initialized yX4_setting.cls, .code yX4_setting cX4_setting 2 (some .int)] [288, 204, 205, 12, 206] rfl (by decide +kernel), ⟨by decide +kernel, by decide +kernel, by decide +kernel⟩⟩
set_option maxRecDepth 100000 in
theorem maX4_67 : ∀ w ∈ ([.methodLink RX4 67 Lib.Math.abs.name, .static Lib.Math.abs.name, .initialized "java/lang/Math", .code Lib.Math.abs.name Lib.Math.abs.code 1 (some .int)] : List Cond), w ∈ gtb := in_p [.methodLink RX4 67 Lib.Math.abs.name, .static Lib.Math.abs.name, .initialized "java/lang/Math", .code Lib.Math.abs.name Lib.Math.abs.code 1 (some .int)] [285, 286, 19, 287] rfl (by decide +kernel)
set_option maxRecDepth 100000 in
theorem maX4_72 : ∀ w ∈ ([.methodLink RX4 72 Lib.Math.min.name, .static Lib.Math.min.name, .initialized "java/lang/Math", .code Lib.Math.min.name Lib.Math.min.code 2 (some .int)] : List Cond), w ∈ gtb := in_p [.methodLink RX4 72 Lib.Math.min.name, .static Lib.Math.min.name, .initialized "java/lang/Math", .code Lib.Math.min.name Lib.Math.min.code 2 (some .int)] [289, 290, 19, 291] rfl (by decide +kernel)
set_option maxRecDepth 100000 in
theorem oiX1_3 : ∀ w ∈ ([.methodLink RX1 3 Lib.objectInit, .instanceMethod Lib.objectInit, .code Lib.objectInit ⟨#[0xb1]⟩ 1 none] : List Cond), w ∈ gtb := in_p [.methodLink RX1 3 Lib.objectInit, .instanceMethod Lib.objectInit, .code Lib.objectInit ⟨#[0xb1]⟩ 1 none] [128, 26, 27] rfl (by decide +kernel)
set_option maxRecDepth 100000 in
theorem poX1_9 : Pok RX1 9 1 0 true (.array .int) true := ⟨RX1, TX1, 12, tyX1, rfl, by decide, in_u1, tyX1_ok, nmX1, in_p [Cond.fieldLink RX1 9 RX1 "matches" "[I"] [129] (by decide +kernel) (by decide +kernel) _ List.mem_cons_self, rfl, rfl, by decide +kernel, rfl, by decide, fun _ => rfl⟩
set_option maxRecDepth 100000 in
theorem poX1_15 : Pok RX1 15 1 1 true (.array .int) true := ⟨RX1, TX1, 12, tyX1, rfl, by decide, in_u1, tyX1_ok, nmX1, in_p [Cond.fieldLink RX1 15 RX1 "shares" "[I"] [130] (by decide +kernel) (by decide +kernel) _ List.mem_cons_self, rfl, rfl, by decide +kernel, rfl, by decide, fun _ => rfl⟩
set_option maxRecDepth 100000 in
theorem poX1_18 : Pok RX1 18 1 2 true (.array .int) true := ⟨RX1, TX1, 12, tyX1, rfl, by decide, in_u1, tyX1_ok, nmX1, in_p [Cond.fieldLink RX1 18 RX1 "heldLines" "[I"] [131] (by decide +kernel) (by decide +kernel) _ List.mem_cons_self, rfl, rfl, by decide +kernel, rfl, by decide, fun _ => rfl⟩
set_option maxRecDepth 100000 in
theorem poX1_21 : Pok RX1 21 1 3 true (.array .int) true := ⟨RX1, TX1, 12, tyX1, rfl, by decide, in_u1, tyX1_ok, nmX1, in_p [Cond.fieldLink RX1 21 RX1 "onsets" "[I"] [132] (by decide +kernel) (by decide +kernel) _ List.mem_cons_self, rfl, rfl, by decide +kernel, rfl, by decide, fun _ => rfl⟩
set_option maxRecDepth 100000 in
theorem poX1_24 : Pok RX1 24 1 4 true (.array .int) true := ⟨RX1, TX1, 12, tyX1, rfl, by decide, in_u1, tyX1_ok, nmX1, in_p [Cond.fieldLink RX1 24 RX1 "reasons" "[I"] [133] (by decide +kernel) (by decide +kernel) _ List.mem_cons_self, rfl, rfl, by decide +kernel, rfl, by decide, fun _ => rfl⟩
set_option maxRecDepth 100000 in
theorem poX1_27 : Pok RX1 27 1 5 true (.array .int) true := ⟨RX1, TX1, 12, tyX1, rfl, by decide, in_u1, tyX1_ok, nmX1, in_p [Cond.fieldLink RX1 27 RX1 "rowsAhead" "[I"] [134] (by decide +kernel) (by decide +kernel) _ List.mem_cons_self, rfl, rfl, by decide +kernel, rfl, by decide, fun _ => rfl⟩
set_option maxRecDepth 100000 in
theorem poX1_30 : Pok RX1 30 1 6 true (.array .int) true := ⟨RX1, TX1, 12, tyX1, rfl, by decide, in_u1, tyX1_ok, nmX1, in_p [Cond.fieldLink RX1 30 RX1 "syllablePoints" "[I"] [135] (by decide +kernel) (by decide +kernel) _ List.mem_cons_self, rfl, rfl, by decide +kernel, rfl, by decide, fun _ => rfl⟩
set_option maxRecDepth 100000 in
theorem poX1_33 : Pok RX1 33 1 7 true (.array .int) true := ⟨RX1, TX1, 12, tyX1, rfl, by decide, in_u1, tyX1_ok, nmX1, in_p [Cond.fieldLink RX1 33 RX1 "phraseHits" "[I"] [136] (by decide +kernel) (by decide +kernel) _ List.mem_cons_self, rfl, rfl, by decide +kernel, rfl, by decide, fun _ => rfl⟩
set_option maxRecDepth 100000 in
theorem poX1_36 : Pok RX1 36 1 8 true (.array .int) true := ⟨RX1, TX1, 12, tyX1, rfl, by decide, in_u1, tyX1_ok, nmX1, in_p [Cond.fieldLink RX1 36 RX1 "phrasePoints" "[I"] [137] (by decide +kernel) (by decide +kernel) _ List.mem_cons_self, rfl, rfl, by decide +kernel, rfl, by decide, fun _ => rfl⟩
set_option maxRecDepth 100000 in
theorem poX1_39 : Pok RX1 39 1 9 true (.array .int) true := ⟨RX1, TX1, 12, tyX1, rfl, by decide, in_u1, tyX1_ok, nmX1, in_p [Cond.fieldLink RX1 39 RX1 "longestRows" "[I"] [138] (by decide +kernel) (by decide +kernel) _ List.mem_cons_self, rfl, rfl, by decide +kernel, rfl, by decide, fun _ => rfl⟩
set_option maxRecDepth 100000 in
theorem poX1_42 : Pok RX1 42 1 10 false .int false := ⟨RX1, TX1, 12, tyX1, rfl, by decide, in_u1, tyX1_ok, nmX1, in_p [Cond.fieldLink RX1 42 RX1 "hits" "I"] [139] (by decide +kernel) (by decide +kernel) _ List.mem_cons_self, rfl, rfl, by decide +kernel, rfl, by decide, fun _ => rfl⟩
set_option maxRecDepth 100000 in
theorem poX1_46 : Pok RX1 46 1 11 false .int false := ⟨RX1, TX1, 12, tyX1, rfl, by decide, in_u1, tyX1_ok, nmX1, in_p [Cond.fieldLink RX1 46 RX1 "points" "I"] [141] (by decide +kernel) (by decide +kernel) _ List.mem_cons_self, rfl, rfl, by decide +kernel, rfl, by decide, fun _ => rfl⟩
set_option maxRecDepth 100000 in
theorem foX1_49 : Fok RX1 49 4 0 true := ⟨RX4, TX4, 3, rfl, by decide, in_u4, in_p [Cond.fieldLink RX1 49 RX4 "song" "LSungSlides$Song;"] [66] (by decide +kernel) (by decide +kernel) _ List.mem_cons_self, rfl, rfl, by decide⟩
set_option maxRecDepth 100000 in
theorem ckX1_55 : CkV RX1 55 yX3_size cX3_size 1 (some .int) 0 := ⟨in_p [.methodLink RX1 55 yX3_size, .instanceMethod yX3_size, .selects yX3_size.cls yX3_size yX3_size, .initialized yX3_size.cls, .code yX3_size cX3_size 1 (some .int)] [259, 208, 209, 13, 210] rfl (by decide +kernel), ⟨by decide +kernel, by decide +kernel, by decide +kernel⟩⟩
set_option maxRecDepth 100000 in
theorem ckX1_61 : CkV RX1 61 yX1_hear cX1_hear 14 none 2 := ⟨in_p [.methodLink RX1 61 yX1_hear, .instanceMethod yX1_hear, .selects yX1_hear.cls yX1_hear yX1_hear, .initialized yX1_hear.cls, .code yX1_hear cX1_hear 14 none] [260, 262, 1, 18, 263] rfl (by decide +kernel), ⟨by decide +kernel, by decide +kernel, by decide +kernel⟩⟩
set_option maxRecDepth 100000 in
theorem ckX1_65 : CkV RX1 65 yX1_score cX1_score 5 none 1 := ⟨in_p [.methodLink RX1 65 yX1_score, .instanceMethod yX1_score, .selects yX1_score.cls yX1_score yX1_score, .initialized yX1_score.cls, .code yX1_score cX1_score 5 none] [318, 320, 3, 18, 321] rfl (by decide +kernel), ⟨by decide +kernel, by decide +kernel, by decide +kernel⟩⟩
set_option maxRecDepth 100000 in
theorem foX1_9 : Fok RX1 9 1 0 true := ⟨RX1, TX1, 12, rfl, by decide, in_u1, in_p [Cond.fieldLink RX1 9 RX1 "matches" "[I"] [129] (by decide +kernel) (by decide +kernel) _ List.mem_cons_self, rfl, rfl, by decide⟩
set_option maxRecDepth 100000 in
theorem ckX1_69 : CkV RX1 69 yX3_lengthOf cX3_lengthOf 2 (some .int) 1 := ⟨in_p [.methodLink RX1 69 yX3_lengthOf, .instanceMethod yX3_lengthOf, .selects yX3_lengthOf.cls yX3_lengthOf yX3_lengthOf, .initialized yX3_lengthOf.cls, .code yX3_lengthOf cX3_lengthOf 2 (some .int)] [265, 232, 233, 13, 234] rfl (by decide +kernel), ⟨by decide +kernel, by decide +kernel, by decide +kernel⟩⟩
set_option maxRecDepth 100000 in
theorem foX1_15 : Fok RX1 15 1 1 true := ⟨RX1, TX1, 12, rfl, by decide, in_u1, in_p [Cond.fieldLink RX1 15 RX1 "shares" "[I"] [130] (by decide +kernel) (by decide +kernel) _ List.mem_cons_self, rfl, rfl, by decide⟩
set_option maxRecDepth 100000 in
theorem foX1_18 : Fok RX1 18 1 2 true := ⟨RX1, TX1, 12, rfl, by decide, in_u1, in_p [Cond.fieldLink RX1 18 RX1 "heldLines" "[I"] [131] (by decide +kernel) (by decide +kernel) _ List.mem_cons_self, rfl, rfl, by decide⟩
set_option maxRecDepth 100000 in
theorem ckX1_73 : CkV RX1 73 yX4_setting cX4_setting 2 (some .int) 1 := ⟨in_p [.methodLink RX1 73 yX4_setting, .instanceMethod yX4_setting, .selects yX4_setting.cls yX4_setting yX4_setting, .initialized yX4_setting.cls, .code yX4_setting cX4_setting 2 (some .int)] [267, 204, 205, 12, 206] rfl (by decide +kernel), ⟨by decide +kernel, by decide +kernel, by decide +kernel⟩⟩
set_option maxRecDepth 100000 in
theorem ckX1_76 : CkV RX1 76 yX3_barLinesOf cX3_barLinesOf 5 (some .int) 2 := ⟨in_p [.methodLink RX1 76 yX3_barLinesOf, .instanceMethod yX3_barLinesOf, .selects yX3_barLinesOf.cls yX3_barLinesOf yX3_barLinesOf, .initialized yX3_barLinesOf.cls, .code yX3_barLinesOf cX3_barLinesOf 5 (some .int)] [360, 361, 362, 13, 363] rfl (by decide +kernel), ⟨by decide +kernel, by decide +kernel, by decide +kernel⟩⟩
set_option maxRecDepth 100000 in
theorem foX1_21 : Fok RX1 21 1 3 true := ⟨RX1, TX1, 12, rfl, by decide, in_u1, in_p [Cond.fieldLink RX1 21 RX1 "onsets" "[I"] [132] (by decide +kernel) (by decide +kernel) _ List.mem_cons_self, rfl, rfl, by decide⟩
set_option maxRecDepth 100000 in
theorem ckX1_80 : CkV RX1 80 yX3_beginningOf cX3_beginningOf 2 (some .int) 1 := ⟨in_p [.methodLink RX1 80 yX3_beginningOf, .instanceMethod yX3_beginningOf, .selects yX3_beginningOf.cls yX3_beginningOf yX3_beginningOf, .initialized yX3_beginningOf.cls, .code yX3_beginningOf cX3_beginningOf 2 (some .int)] [266, 228, 229, 13, 230] rfl (by decide +kernel), ⟨by decide +kernel, by decide +kernel, by decide +kernel⟩⟩
set_option maxRecDepth 100000 in
theorem foX1_24 : Fok RX1 24 1 4 true := ⟨RX1, TX1, 12, rfl, by decide, in_u1, in_p [Cond.fieldLink RX1 24 RX1 "reasons" "[I"] [133] (by decide +kernel) (by decide +kernel) _ List.mem_cons_self, rfl, rfl, by decide⟩
set_option maxRecDepth 100000 in
theorem ckX1_83 : CkN RX1 83 "SungSlides" yX6_isWithin cX6_isWithin 3 (some .boolean) 3 := ⟨in_p [.static yX6_isWithin, .initialized yX6_isWithin.cls, .code yX6_isWithin cX6_isWithin 3 (some .boolean)] [198, 11, 199] rfl (by decide +kernel), ⟨by decide +kernel, by decide +kernel, by decide +kernel⟩, in_n _ 264 rfl rfl⟩
set_option maxRecDepth 100000 in
theorem ckX1_87 : CkV RX1 87 yX4_sungAt cX4_sungAt 2 (some .int) 1 := ⟨in_p [.methodLink RX1 87 yX4_sungAt, .instanceMethod yX4_sungAt, .selects yX4_sungAt.cls yX4_sungAt yX4_sungAt, .initialized yX4_sungAt.cls, .code yX4_sungAt cX4_sungAt 2 (some .int)] [268, 240, 241, 12, 242] rfl (by decide +kernel), ⟨by decide +kernel, by decide +kernel, by decide +kernel⟩⟩
set_option maxRecDepth 100000 in
theorem ckX1_90 : CkV RX1 90 yX3_wantedOf cX3_wantedOf 5 (some .int) 2 := ⟨in_p [.methodLink RX1 90 yX3_wantedOf, .instanceMethod yX3_wantedOf, .selects yX3_wantedOf.cls yX3_wantedOf yX3_wantedOf, .initialized yX3_wantedOf.cls, .code yX3_wantedOf cX3_wantedOf 5 (some .int)] [269, 270, 271, 13, 272] rfl (by decide +kernel), ⟨by decide +kernel, by decide +kernel, by decide +kernel⟩⟩
set_option maxRecDepth 100000 in
theorem ckX1_93 : CkV RX1 93 yX4_isMatch cX4_isMatch 5 (some .boolean) 2 := ⟨in_p [.methodLink RX1 93 yX4_isMatch, .instanceMethod yX4_isMatch, .selects yX4_isMatch.cls yX4_isMatch yX4_isMatch, .initialized yX4_isMatch.cls, .code yX4_isMatch cX4_isMatch 5 (some .boolean)] [281, 282, 283, 12, 284] rfl (by decide +kernel), ⟨by decide +kernel, by decide +kernel, by decide +kernel⟩⟩
set_option maxRecDepth 100000 in
theorem ckX1_97 : CkS RX1 97 yX1_isBarLine cX1_isBarLine 2 (some .boolean) 2 := ⟨in_p [.methodLink RX1 97 yX1_isBarLine, .static yX1_isBarLine, .initialized RX1, .code yX1_isBarLine cX1_isBarLine 2 (some .boolean)] [292, 293, 18, 294] rfl (by decide +kernel), rfl, ⟨by decide +kernel, by decide +kernel, by decide +kernel⟩⟩
set_option maxRecDepth 100000 in
theorem ckX1_100 : CkV RX1 100 yX4_onsetNear cX4_onsetNear 4 (some .int) 1 := ⟨in_p [.methodLink RX1 100 yX4_onsetNear, .instanceMethod yX4_onsetNear, .selects yX4_onsetNear.cls yX4_onsetNear yX4_onsetNear, .initialized yX4_onsetNear.cls, .code yX4_onsetNear cX4_onsetNear 4 (some .int)] [295, 296, 297, 12, 298] rfl (by decide +kernel), ⟨by decide +kernel, by decide +kernel, by decide +kernel⟩⟩
set_option maxRecDepth 100000 in
theorem ckX1_103 : CkV RX1 103 yX1_reasonFor cX1_reasonFor 4 (some .int) 3 := ⟨in_p [.methodLink RX1 103 yX1_reasonFor, .instanceMethod yX1_reasonFor, .selects yX1_reasonFor.cls yX1_reasonFor yX1_reasonFor, .initialized yX1_reasonFor.cls, .code yX1_reasonFor cX1_reasonFor 4 (some .int)] [299, 301, 2, 18, 302] rfl (by decide +kernel), ⟨by decide +kernel, by decide +kernel, by decide +kernel⟩⟩
set_option maxRecDepth 100000 in
theorem ckX1_107 : CkV RX1 107 yX1_matchesOf cX1_matchesOf 2 (some .int) 1 := ⟨in_p [.methodLink RX1 107 yX1_matchesOf, .instanceMethod yX1_matchesOf, .selects yX1_matchesOf.cls yX1_matchesOf yX1_matchesOf, .initialized yX1_matchesOf.cls, .code yX1_matchesOf cX1_matchesOf 2 (some .int)] [303, 304, 305, 18, 306] rfl (by decide +kernel), ⟨by decide +kernel, by decide +kernel, by decide +kernel⟩⟩
set_option maxRecDepth 100000 in
theorem ckX1_110 : CkV RX1 110 yX1_onsetOf cX1_onsetOf 2 (some .int) 1 := ⟨in_p [.methodLink RX1 110 yX1_onsetOf, .instanceMethod yX1_onsetOf, .selects yX1_onsetOf.cls yX1_onsetOf yX1_onsetOf, .initialized yX1_onsetOf.cls, .code yX1_onsetOf cX1_onsetOf 2 (some .int)] [310, 311, 312, 18, 313] rfl (by decide +kernel), ⟨by decide +kernel, by decide +kernel, by decide +kernel⟩⟩
set_option maxRecDepth 100000 in
theorem ckX1_113 : CkV RX1 113 yX1_shareOf cX1_shareOf 2 (some .int) 1 := ⟨in_p [.methodLink RX1 113 yX1_shareOf, .instanceMethod yX1_shareOf, .selects yX1_shareOf.cls yX1_shareOf yX1_shareOf, .initialized yX1_shareOf.cls, .code yX1_shareOf cX1_shareOf 2 (some .int)] [314, 315, 316, 18, 317] rfl (by decide +kernel), ⟨by decide +kernel, by decide +kernel, by decide +kernel⟩⟩
set_option maxRecDepth 100000 in
theorem ckX1_116 : CkV RX1 116 yX3_phraseOf cX3_phraseOf 2 (some .int) 1 := ⟨in_p [.methodLink RX1 116 yX3_phraseOf, .instanceMethod yX3_phraseOf, .selects yX3_phraseOf.cls yX3_phraseOf yX3_phraseOf, .initialized yX3_phraseOf.cls, .code yX3_phraseOf cX3_phraseOf 2 (some .int)] [322, 216, 217, 13, 218] rfl (by decide +kernel), ⟨by decide +kernel, by decide +kernel, by decide +kernel⟩⟩
set_option maxRecDepth 100000 in
theorem ckX1_119 : CkV RX1 119 yX3_beginsPhrase cX3_beginsPhrase 2 (some .boolean) 1 := ⟨in_p [.methodLink RX1 119 yX3_beginsPhrase, .instanceMethod yX3_beginsPhrase, .selects yX3_beginsPhrase.cls yX3_beginsPhrase yX3_beginsPhrase, .initialized yX3_beginsPhrase.cls, .code yX3_beginsPhrase cX3_beginsPhrase 2 (some .boolean)] [323, 324, 325, 13, 326] rfl (by decide +kernel), ⟨by decide +kernel, by decide +kernel, by decide +kernel⟩⟩
set_option maxRecDepth 100000 in
theorem ckX1_123 : CkV RX1 123 yX1_beginPhrase cX1_beginPhrase 2 none 1 := ⟨in_p [.methodLink RX1 123 yX1_beginPhrase, .instanceMethod yX1_beginPhrase, .selects yX1_beginPhrase.cls yX1_beginPhrase yX1_beginPhrase, .initialized yX1_beginPhrase.cls, .code yX1_beginPhrase cX1_beginPhrase 2 none] [327, 329, 4, 18, 330] rfl (by decide +kernel), ⟨by decide +kernel, by decide +kernel, by decide +kernel⟩⟩
set_option maxRecDepth 100000 in
theorem foX1_27 : Fok RX1 27 1 5 true := ⟨RX1, TX1, 12, rfl, by decide, in_u1, in_p [Cond.fieldLink RX1 27 RX1 "rowsAhead" "[I"] [134] (by decide +kernel) (by decide +kernel) _ List.mem_cons_self, rfl, rfl, by decide⟩
set_option maxRecDepth 100000 in
theorem maX1_127 : ∀ w ∈ ([.methodLink RX1 127 Lib.Math.min.name, .static Lib.Math.min.name, .initialized "java/lang/Math", .code Lib.Math.min.name Lib.Math.min.code 2 (some .int)] : List Cond), w ∈ gtb := in_p [.methodLink RX1 127 Lib.Math.min.name, .static Lib.Math.min.name, .initialized "java/lang/Math", .code Lib.Math.min.name Lib.Math.min.code 2 (some .int)] [331, 290, 19, 291] rfl (by decide +kernel)
set_option maxRecDepth 100000 in
theorem foX1_30 : Fok RX1 30 1 6 true := ⟨RX1, TX1, 12, rfl, by decide, in_u1, in_p [Cond.fieldLink RX1 30 RX1 "syllablePoints" "[I"] [135] (by decide +kernel) (by decide +kernel) _ List.mem_cons_self, rfl, rfl, by decide⟩
set_option maxRecDepth 100000 in
theorem ckX1_132 : CkV RX1 132 yX1_scoreOf cX1_scoreOf 5 (some .int) 2 := ⟨in_p [.methodLink RX1 132 yX1_scoreOf, .instanceMethod yX1_scoreOf, .selects yX1_scoreOf.cls yX1_scoreOf yX1_scoreOf, .initialized yX1_scoreOf.cls, .code yX1_scoreOf cX1_scoreOf 5 (some .int)] [332, 334, 5, 18, 335] rfl (by decide +kernel), ⟨by decide +kernel, by decide +kernel, by decide +kernel⟩⟩
set_option maxRecDepth 100000 in
theorem foX1_36 : Fok RX1 36 1 8 true := ⟨RX1, TX1, 12, rfl, by decide, in_u1, in_p [Cond.fieldLink RX1 36 RX1 "phrasePoints" "[I"] [137] (by decide +kernel) (by decide +kernel) _ List.mem_cons_self, rfl, rfl, by decide⟩
set_option maxRecDepth 100000 in
theorem foX1_33 : Fok RX1 33 1 7 true := ⟨RX1, TX1, 12, rfl, by decide, in_u1, in_p [Cond.fieldLink RX1 33 RX1 "phraseHits" "[I"] [136] (by decide +kernel) (by decide +kernel) _ List.mem_cons_self, rfl, rfl, by decide⟩
set_option maxRecDepth 100000 in
theorem foX1_39 : Fok RX1 39 1 9 true := ⟨RX1, TX1, 12, rfl, by decide, in_u1, in_p [Cond.fieldLink RX1 39 RX1 "longestRows" "[I"] [138] (by decide +kernel) (by decide +kernel) _ List.mem_cons_self, rfl, rfl, by decide⟩
set_option maxRecDepth 100000 in
theorem maX1_136 : ∀ w ∈ ([.methodLink RX1 136 Lib.Math.max.name, .static Lib.Math.max.name, .initialized "java/lang/Math", .code Lib.Math.max.name Lib.Math.max.code 2 (some .int)] : List Cond), w ∈ gtb := in_p [.methodLink RX1 136 Lib.Math.max.name, .static Lib.Math.max.name, .initialized "java/lang/Math", .code Lib.Math.max.name Lib.Math.max.code 2 (some .int)] [337, 338, 19, 339] rfl (by decide +kernel)
set_option maxRecDepth 100000 in
theorem ckX1_139 : CkV RX1 139 yX3_phraseCount cX3_phraseCount 1 (some .int) 0 := ⟨in_p [.methodLink RX1 139 yX3_phraseCount, .instanceMethod yX3_phraseCount, .selects yX3_phraseCount.cls yX3_phraseCount yX3_phraseCount, .initialized yX3_phraseCount.cls, .code yX3_phraseCount cX3_phraseCount 1 (some .int)] [340, 212, 213, 13, 214] rfl (by decide +kernel), ⟨by decide +kernel, by decide +kernel, by decide +kernel⟩⟩
set_option maxRecDepth 100000 in
theorem ckX1_142 : CkV RX1 142 yX3_sizeOfPhrase cX3_sizeOfPhrase 4 (some .int) 1 := ⟨in_p [.methodLink RX1 142 yX3_sizeOfPhrase, .instanceMethod yX3_sizeOfPhrase, .selects yX3_sizeOfPhrase.cls yX3_sizeOfPhrase yX3_sizeOfPhrase, .initialized yX3_sizeOfPhrase.cls, .code yX3_sizeOfPhrase cX3_sizeOfPhrase 4 (some .int)] [341, 342, 343, 13, 344] rfl (by decide +kernel), ⟨by decide +kernel, by decide +kernel, by decide +kernel⟩⟩
set_option maxRecDepth 100000 in
theorem ckX1_145 : CkS RX1 145 yX1_extraOf cX1_extraOf 2 (some .int) 2 := ⟨in_p [.methodLink RX1 145 yX1_extraOf, .static yX1_extraOf, .initialized RX1, .code yX1_extraOf cX1_extraOf 2 (some .int)] [345, 346, 18, 347] rfl (by decide +kernel), rfl, ⟨by decide +kernel, by decide +kernel, by decide +kernel⟩⟩
set_option maxRecDepth 100000 in
theorem foX1_42 : Fok RX1 42 1 10 false := ⟨RX1, TX1, 12, rfl, by decide, in_u1, in_p [Cond.fieldLink RX1 42 RX1 "hits" "I"] [139] (by decide +kernel) (by decide +kernel) _ List.mem_cons_self, rfl, rfl, by decide⟩
set_option maxRecDepth 100000 in
theorem foX1_46 : Fok RX1 46 1 11 false := ⟨RX1, TX1, 12, rfl, by decide, in_u1, in_p [Cond.fieldLink RX1 46 RX1 "points" "I"] [141] (by decide +kernel) (by decide +kernel) _ List.mem_cons_self, rfl, rfl, by decide⟩
set_option maxRecDepth 100000 in
theorem maX1_148 : ∀ w ∈ ([.methodLink RX1 148 Lib.Math.abs.name, .static Lib.Math.abs.name, .initialized "java/lang/Math", .code Lib.Math.abs.name Lib.Math.abs.code 1 (some .int)] : List Cond), w ∈ gtb := in_p [.methodLink RX1 148 Lib.Math.abs.name, .static Lib.Math.abs.name, .initialized "java/lang/Math", .code Lib.Math.abs.name Lib.Math.abs.code 1 (some .int)] [336, 286, 19, 287] rfl (by decide +kernel)
set_option maxRecDepth 100000 in
theorem ckX1_151 : CkS RX1 151 yX1_valueIn cX1_valueIn 2 (some .int) 2 := ⟨in_p [.methodLink RX1 151 yX1_valueIn, .static yX1_valueIn, .initialized RX1, .code yX1_valueIn cX1_valueIn 2 (some .int)] [307, 308, 18, 309] rfl (by decide +kernel), rfl, ⟨by decide +kernel, by decide +kernel, by decide +kernel⟩⟩
set_option maxRecDepth 100000 in
theorem oiX0_3 : ∀ w ∈ ([.methodLink RX0 3 Lib.objectInit, .instanceMethod Lib.objectInit, .code Lib.objectInit ⟨#[0xb1]⟩ 1 none] : List Cond), w ∈ gtb := in_p [.methodLink RX0 3 Lib.objectInit, .instanceMethod Lib.objectInit, .code Lib.objectInit ⟨#[0xb1]⟩ 1 none] [82, 26, 27] rfl (by decide +kernel)
set_option maxRecDepth 100000 in
theorem clX0_9 : Cond.classLink RX0 9 "SungSlides$State" ∈ gtb := in_p [Cond.classLink RX0 9 "SungSlides$State"] [83] rfl (by decide +kernel) _ List.mem_cons_self
set_option maxRecDepth 100000 in
theorem poX0_11 : Pok RX0 11 0 0 true (.array (.object "SungSlides$State")) true := ⟨RX0, TX0, 2, tyX0, rfl, by decide, in_u0, tyX0_ok, nmX0, in_p [Cond.fieldLink RX0 11 RX0 "states" "[LSungSlides$State;"] [86] (by decide +kernel) (by decide +kernel) _ List.mem_cons_self, rfl, rfl, by decide +kernel, rfl, by decide, fun _ => rfl⟩
set_option maxRecDepth 100000 in
theorem poX0_17 : Pok RX0 17 0 1 false .int false := ⟨RX0, TX0, 2, tyX0, rfl, by decide, in_u0, tyX0_ok, nmX0, in_p [Cond.fieldLink RX0 17 RX0 "count" "I"] [87] (by decide +kernel) (by decide +kernel) _ List.mem_cons_self, rfl, rfl, by decide +kernel, rfl, by decide, fun _ => rfl⟩
set_option maxRecDepth 100000 in
theorem foX0_11 : Fok RX0 11 0 0 true := ⟨RX0, TX0, 2, rfl, by decide, in_u0, in_p [Cond.fieldLink RX0 11 RX0 "states" "[LSungSlides$State;"] [86] (by decide +kernel) (by decide +kernel) _ List.mem_cons_self, rfl, rfl, by decide⟩
set_option maxRecDepth 100000 in
theorem ckX0_21 : CkI RX0 21 yX4_init cX4_init 2 0 := ⟨in_p [.methodLink RX0 21 yX4_init, .instanceMethod yX4_init, .initialized yX4_init.cls, .code yX4_init cX4_init 2 none] [85, 31, 12, 32] rfl (by decide +kernel), rfl, ⟨by decide +kernel, by decide +kernel, by decide +kernel⟩⟩
set_option maxRecDepth 100000 in
theorem noX0_9 : Nok RX0 9 4 := ⟨RX4, TX4, 3, tyX4, rfl, in_u4, tyX4_ok, in_p [Cond.classLink RX0 9 RX4] [83] rfl (by decide +kernel) _ List.mem_cons_self, in_p [Cond.instantiable RX4 3] [29] rfl (by decide +kernel) _ List.mem_cons_self, in_p [Cond.initialized RX4] [12] rfl (by decide +kernel) _ List.mem_cons_self, by decide, rfl, by decide +kernel⟩
set_option maxRecDepth 100000 in
theorem foX0_17 : Fok RX0 17 0 1 false := ⟨RX0, TX0, 2, rfl, by decide, in_u0, in_p [Cond.fieldLink RX0 17 RX0 "count" "I"] [87] (by decide +kernel) (by decide +kernel) _ List.mem_cons_self, rfl, rfl, by decide⟩
set_option maxRecDepth 100000 in
theorem ckX0_22 : CkV RX0 22 yX0_dropOldest cX0_dropOldest 3 none 0 := ⟨in_p [.methodLink RX0 22 yX0_dropOldest, .instanceMethod yX0_dropOldest, .selects yX0_dropOldest.cls yX0_dropOldest yX0_dropOldest, .initialized yX0_dropOldest.cls, .code yX0_dropOldest cX0_dropOldest 3 none] [511, 513, 9, 15, 514] rfl (by decide +kernel), ⟨by decide +kernel, by decide +kernel, by decide +kernel⟩⟩
set_option maxRecDepth 100000 in
theorem ckX0_25 : CkN RX0 25 "SungSlides" yX6_isWithin cX6_isWithin 3 (some .boolean) 3 := ⟨in_p [.static yX6_isWithin, .initialized yX6_isWithin.cls, .code yX6_isWithin cX6_isWithin 3 (some .boolean)] [198, 11, 199] rfl (by decide +kernel), ⟨by decide +kernel, by decide +kernel, by decide +kernel⟩, in_n _ 515 rfl rfl⟩
set_option maxRecDepth 100000 in
theorem ckX0_29 : CkV RX0 29 yX4_copyFrom cX4_copyFrom 2 none 1 := ⟨in_p [.methodLink RX0 29 yX4_copyFrom, .instanceMethod yX4_copyFrom, .selects yX4_copyFrom.cls yX4_copyFrom yX4_copyFrom, .initialized yX4_copyFrom.cls, .code yX4_copyFrom cX4_copyFrom 2 none] [516, 377, 378, 12, 379] rfl (by decide +kernel), ⟨by decide +kernel, by decide +kernel, by decide +kernel⟩⟩
set_option maxRecDepth 100000 in
theorem oiX5_3 : ∀ w ∈ ([.methodLink RX5 3 Lib.objectInit, .instanceMethod Lib.objectInit, .code Lib.objectInit ⟨#[0xb1]⟩ 1 none] : List Cond), w ∈ gtb := in_p [.methodLink RX5 3 Lib.objectInit, .instanceMethod Lib.objectInit, .code Lib.objectInit ⟨#[0xb1]⟩ 1 none] [98, 26, 27] rfl (by decide +kernel)
set_option maxRecDepth 100000 in
theorem ac_char : Cond.arrayClass .char ∈ gtb := in_p [Cond.arrayClass .char] [106] rfl (by decide +kernel) _ List.mem_cons_self
set_option maxRecDepth 100000 in
theorem poX5_9 : Pok RX5 9 5 0 true (.array .char) true := ⟨RX5, TX5, 2, tyX5, rfl, by decide, in_u5, tyX5_ok, nmX5, in_p [Cond.fieldLink RX5 9 RX5 "characters" "[C"] [99] (by decide +kernel) (by decide +kernel) _ List.mem_cons_self, rfl, rfl, by decide +kernel, rfl, by decide, fun _ => rfl⟩
set_option maxRecDepth 100000 in
theorem poX5_15 : Pok RX5 15 5 1 false .int false := ⟨RX5, TX5, 2, tyX5, rfl, by decide, in_u5, tyX5_ok, nmX5, in_p [Cond.fieldLink RX5 15 RX5 "count" "I"] [100] (by decide +kernel) (by decide +kernel) _ List.mem_cons_self, rfl, rfl, by decide +kernel, rfl, by decide, fun _ => rfl⟩
set_option maxRecDepth 100000 in
theorem foX5_15 : Fok RX5 15 5 1 false := ⟨RX5, TX5, 2, rfl, by decide, in_u5, in_p [Cond.fieldLink RX5 15 RX5 "count" "I"] [100] (by decide +kernel) (by decide +kernel) _ List.mem_cons_self, rfl, rfl, by decide⟩
set_option maxRecDepth 100000 in
theorem oiX2_3 : ∀ w ∈ ([.methodLink RX2 3 Lib.objectInit, .instanceMethod Lib.objectInit, .code Lib.objectInit ⟨#[0xb1]⟩ 1 none] : List Cond), w ∈ gtb := in_p [.methodLink RX2 3 Lib.objectInit, .instanceMethod Lib.objectInit, .code Lib.objectInit ⟨#[0xb1]⟩ 1 none] [112, 26, 27] rfl (by decide +kernel)
set_option maxRecDepth 100000 in
theorem poX2_9 : Pok RX2 9 2 0 false .int false := ⟨RX2, TX2, 3, tyX2, rfl, by decide, in_u2, tyX2_ok, nmX2, in_p [Cond.fieldLink RX2 9 RX2 "place" "I"] [113] (by decide +kernel) (by decide +kernel) _ List.mem_cons_self, rfl, rfl, by decide +kernel, rfl, by decide, fun _ => rfl⟩
set_option maxRecDepth 100000 in
theorem poX2_15 : Pok RX2 15 2 1 false .boolean false := ⟨RX2, TX2, 3, tyX2, rfl, by decide, in_u2, tyX2_ok, nmX2, in_p [Cond.fieldLink RX2 15 RX2 "hasFault" "Z"] [114] (by decide +kernel) (by decide +kernel) _ List.mem_cons_self, rfl, rfl, by decide +kernel, rfl, by decide, fun _ => rfl⟩
set_option maxRecDepth 100000 in
theorem poX2_19 : Pok RX2 19 2 2 false .boolean false := ⟨RX2, TX2, 3, tyX2, rfl, by decide, in_u2, tyX2_ok, nmX2, in_p [Cond.fieldLink RX2 19 RX2 "isTooLong" "Z"] [115] (by decide +kernel) (by decide +kernel) _ List.mem_cons_self, rfl, rfl, by decide +kernel, rfl, by decide, fun _ => rfl⟩
end
section
abbrev rm_X3_init : Room := { frames := 1, cells := 5, slots := 200, locals := 12 }
def B_X3_init : ST := sSeq (sObj (rL 0)) (sSeq (sSeq (sPutR 3 0 (rL 0) (rNewI (iC 40))) (sSeq (sPutR 3 1 (rL 0) (rNewI (iC 40))) (sSeq (sPutR 3 2 (rL 0) (rNewI (iC 40))) (sSeq (sPutR 3 3 (rL 0) (rNewI (iC 40))) (sSeq (sPutR 3 4 (rL 0) (rNewI (iC 40))) (sPut false 3 5 (rL 0) (iC 0))))))) sRetV)
def al_X3_init : List (Nat × Nat) := [(20, 40), (20, 40), (20, 40), (20, 40), (20, 40)]
def m_X3_init : Mt := mkM 1 al_X3_init B_X3_init
set_option maxRecDepth 20000 in
theorem ok_X3_init : MOkV yX3_init cX3_init 1 rm_X3_init m_X3_init := by
  unfold m_X3_init
  refine MOkV_mk (pe := 50) al_X3_init (by decide +kernel) (by decide) (by decide) ⟨by decide +kernel, by decide +kernel⟩ (fun Rt G hG => ?_)
  have hG : Mach RX3 cX3_init 1 "<init>" rm_X3_init none 3 0 (fun _ => 0) Rt G := hG
  unfold B_X3_init
  exact S_seq hG (p1 := 4) (S_obj hG (p1 := 1) oiX3_3 ⟨by decide, by decide⟩ (R_aload_n hG dX3_init_0 rfl (by decide)) dX3_init_1) (S_seq hG (p1 := 49) (S_seq hG (p1 := 12) (S_putR hG poX3_9 rfl (fun _ => rfl) (fun _ => rfl) (p1 := 5) (p2 := 9) (R_aload_n hG dX3_init_4 rfl (by decide)) (R_newI hG (p1 := 7) ac_int (I_bipush hG dX3_init_5 (by decide) ⟨by decide, by decide⟩) dX3_init_7) dX3_init_9) (S_seq hG (p1 := 20) (S_putR hG poX3_15 rfl (fun _ => rfl) (fun _ => rfl) (p1 := 13) (p2 := 17) (R_aload_n hG dX3_init_12 rfl (by decide)) (R_newI hG (p1 := 15) ac_int (I_bipush hG dX3_init_13 (by decide) ⟨by decide, by decide⟩) dX3_init_15) dX3_init_17) (S_seq hG (p1 := 28) (S_putR hG poX3_18 rfl (fun _ => rfl) (fun _ => rfl) (p1 := 21) (p2 := 25) (R_aload_n hG dX3_init_20 rfl (by decide)) (R_newI hG (p1 := 23) ac_int (I_bipush hG dX3_init_21 (by decide) ⟨by decide, by decide⟩) dX3_init_23) dX3_init_25) (S_seq hG (p1 := 36) (S_putR hG poX3_21 rfl (fun _ => rfl) (fun _ => rfl) (p1 := 29) (p2 := 33) (R_aload_n hG dX3_init_28 rfl (by decide)) (R_newI hG (p1 := 31) ac_int (I_bipush hG dX3_init_29 (by decide) ⟨by decide, by decide⟩) dX3_init_31) dX3_init_33) (S_seq hG (p1 := 44) (S_putR hG poX3_24 rfl (fun _ => rfl) (fun _ => rfl) (p1 := 37) (p2 := 41) (R_aload_n hG dX3_init_36 rfl (by decide)) (R_newI hG (p1 := 39) ac_int (I_bipush hG dX3_init_37 (by decide) ⟨by decide, by decide⟩) dX3_init_39) dX3_init_41) (S_putI hG poX3_27 (p1 := 45) (p2 := 46) (R_aload_n hG dX3_init_44 rfl (by decide)) (I_iconst hG dX3_init_45 (by decide) ⟨by decide, by decide⟩) dX3_init_46)))))) (S_retV hG rfl dX3_init_49))
abbrev rm_X4_init : Room := { frames := 2, cells := 8, slots := 811, locals := 32 }
def B_X4_init : ST := sSeq (sObj (rL 0)) (sSeq (sSeq (sPutR 4 0 (rL 0) (rNew 3 rm_X3_init.cells rm_X3_init.slots m_X3_init (aN))) (sSeq (sPutR 4 1 (rL 0) (rNewI (iC 5))) (sSeq (sPutR 4 2 (rL 0) (rNewI (iC 600))) (sSeq (sCopyT (fun _ => 0) 0 (rF 4 1 (rL 0)) (iC 0) (iC 0) (iC 5)) (sSeq (sLoc 1 (iC 0)) (sWhile (cLt (iL 1) (iC 600)) (sSeq (sAst (rF 4 2 (rL 0)) (iL 1) (iC (-1))) (sInc 1 1)))))))) sRetV)
def al_X4_init : List (Nat × Nat) := [(3, 0), (20, 40), (20, 40), (20, 40), (20, 40), (20, 40), (20, 5), (20, 600)]
def m_X4_init : Mt := mkM 1 al_X4_init B_X4_init
set_option maxRecDepth 20000 in
theorem ok_X4_init : MOkV yX4_init cX4_init 2 rm_X4_init m_X4_init := by
  unfold m_X4_init
  refine MOkV_mk (pe := 67) al_X4_init (by decide +kernel) (by decide) (by decide) ⟨by decide +kernel, by decide +kernel⟩ (fun Rt G hG => ?_)
  have hG : Mach RX4 cX4_init 2 "<init>" rm_X4_init none 3 0 (fun _ => 0) Rt G := hG
  unfold B_X4_init
  exact S_seq hG (p1 := 4) (S_obj hG (p1 := 1) oiX4_3 ⟨by decide, by decide⟩ (R_aload_n hG dX4_init_0 rfl (by decide)) dX4_init_1) (S_seq hG (p1 := 66) (S_seq hG (p1 := 15) (S_putR hG poX4_12 rfl (fun _ => rfl) (fun _ => rfl) (p1 := 5) (p2 := 12) (R_aload_n hG dX4_init_4 rfl (by decide)) (R_newN hG (p2 := 9) noX4_9 (by decide) ok_X3_init ckX4_11 ⟨by decide, by decide⟩ (by decide) dX4_init_5 dX4_init_8 (A_nil hG) dX4_init_9) dX4_init_12) (S_seq hG (p1 := 22) (S_putR hG poX4_18 rfl (fun _ => rfl) (fun _ => rfl) (p1 := 16) (p2 := 19) (R_aload_n hG dX4_init_15 rfl (by decide)) (R_newI hG (p1 := 17) ac_int (I_iconst hG dX4_init_16 (by decide) ⟨by decide, by decide⟩) dX4_init_17) dX4_init_19) (S_seq hG (p1 := 31) (S_putR hG poX4_22 rfl (fun _ => rfl) (fun _ => rfl) (p1 := 23) (p2 := 28) (R_aload_n hG dX4_init_22 rfl (by decide)) (R_newI hG (p1 := 26) ac_int (I_sipush hG dX4_init_23 (by decide) ⟨by decide, by decide⟩) dX4_init_26) dX4_init_28) (S_seq hG (p1 := 44) (S_copyT hG coX4_28 ⟨by decide, by decide⟩ (by decide) gnX4_25 dX4_init_31 (p2 := 35) (p3 := 39) (p4 := 40) (p5 := 41) (I_iconst hG dX4_init_34 (by decide) ⟨by decide, by decide⟩) (R_getf hG foX4_18 (p1 := 36) (R_aload_n hG dX4_init_35 rfl (by decide)) dX4_init_36) (I_iconst hG dX4_init_39 (by decide) ⟨by decide, by decide⟩) (I_iconst hG dX4_init_40 (by decide) ⟨by decide, by decide⟩) dX4_init_41) (S_seq hG (p1 := 46) (S_istore_n hG (p1 := 45) (I_iconst hG dX4_init_44 (by decide) ⟨by decide, by decide⟩) dX4_init_45 rfl (by decide)) (S_while hG (p1 := 53) (p2 := 66) (C_lt_F hG (p1 := 47) (p2 := 50) (tgt := 66) (I_iload_n hG dX4_init_46 rfl (by decide)) (I_sipush hG dX4_init_47 (by decide) ⟨by decide, by decide⟩) dX4_init_50 (by decide)) (S_seq hG (p1 := 60) (S_iast hG (p1 := 57) (p2 := 58) (p3 := 59) (R_getf hG foX4_22 (p1 := 54) (R_aload_n hG dX4_init_53 rfl (by decide)) dX4_init_54) (I_iload_n hG dX4_init_57 rfl (by decide)) (I_iconst hG dX4_init_58 (by decide) ⟨by decide, by decide⟩) dX4_init_59) (S_goto hG (p2 := 46) (S_iinc hG dX4_init_60 (by decide)) dX4_init_63 (by decide))))))))) (S_retV hG rfl dX4_init_66))
abbrev rm_X0_init : Room := { frames := 3, cells := 37, slots := 3260, locals := 53 }
def B_X0_init : ST := sSeq (sObj (rL 0)) (sSeq (sSeq (sPutR 0 0 (rL 0) (rNewR (iC 4))) (sSeq (sPut false 0 1 (rL 0) (iC 0)) (sSeq (sLoc 1 (iC 0)) (sWhile (cLt (iL 1) (iC 4)) (sSeq (sRst (rF 0 0 (rL 0)) (iL 1) (rNew 4 rm_X4_init.cells rm_X4_init.slots m_X4_init (aN))) (sInc 1 1)))))) sRetV)
def al_X0_init : List (Nat × Nat) := [(22, 4), (4, 0), (3, 0), (20, 40), (20, 40), (20, 40), (20, 40), (20, 40), (20, 5), (20, 600), (4, 0), (3, 0), (20, 40), (20, 40), (20, 40), (20, 40), (20, 40), (20, 5), (20, 600), (4, 0), (3, 0), (20, 40), (20, 40), (20, 40), (20, 40), (20, 40), (20, 5), (20, 600), (4, 0), (3, 0), (20, 40), (20, 40), (20, 40), (20, 40), (20, 40), (20, 5), (20, 600)]
def m_X0_init : Mt := mkM 1 al_X0_init B_X0_init
set_option maxRecDepth 20000 in
theorem ok_X0_init : MOkV yX0_init cX0_init 2 rm_X0_init m_X0_init := by
  unfold m_X0_init
  refine MOkV_mk (pe := 44) al_X0_init (by decide +kernel) (by decide) (by decide) ⟨by decide +kernel, by decide +kernel⟩ (fun Rt G hG => ?_)
  have hG : Mach RX0 cX0_init 2 "<init>" rm_X0_init none 3 0 (fun _ => 0) Rt G := hG
  unfold B_X0_init
  exact S_seq hG (p1 := 4) (S_obj hG (p1 := 1) oiX0_3 ⟨by decide, by decide⟩ (R_aload_n hG dX0_init_0 rfl (by decide)) dX0_init_1) (S_seq hG (p1 := 43) (S_seq hG (p1 := 12) (S_putR hG poX0_11 rfl (fun _ => rfl) (fun _ => rfl) (p1 := 5) (p2 := 9) (R_aload_n hG dX0_init_4 rfl (by decide)) (R_newR hG (p1 := 6) clX0_9 (I_iconst hG dX0_init_5 (by decide) ⟨by decide, by decide⟩) dX0_init_6) dX0_init_9) (S_seq hG (p1 := 17) (S_putI hG poX0_17 (p1 := 13) (p2 := 14) (R_aload_n hG dX0_init_12 rfl (by decide)) (I_iconst hG dX0_init_13 (by decide) ⟨by decide, by decide⟩) dX0_init_14) (S_seq hG (p1 := 19) (S_istore_n hG (p1 := 18) (I_iconst hG dX0_init_17 (by decide) ⟨by decide, by decide⟩) dX0_init_18 rfl (by decide)) (S_while hG (p1 := 24) (p2 := 43) (C_lt_F hG (p1 := 20) (p2 := 21) (tgt := 43) (I_iload_n hG dX0_init_19 rfl (by decide)) (I_iconst hG dX0_init_20 (by decide) ⟨by decide, by decide⟩) dX0_init_21 (by decide)) (S_seq hG (p1 := 37) (S_aast hG (p1 := 28) (p2 := 29) (p3 := 36) (R_getf hG foX0_11 (p1 := 25) (R_aload_n hG dX0_init_24 rfl (by decide)) dX0_init_25) (I_iload_n hG dX0_init_28 rfl (by decide)) (R_new hG (p2 := 33) noX0_9 (by decide) ok_X4_init ckX0_21 ⟨by decide, by decide⟩ (by decide) dX0_init_29 dX0_init_32 (A_nil hG) dX0_init_33) dX0_init_36) (S_goto hG (p2 := 19) (S_iinc hG dX0_init_37 (by decide)) dX0_init_40 (by decide))))))) (S_retV hG rfl dX0_init_43))
abbrev rm_X5_init : Room := { frames := 1, cells := 1, slots := 60, locals := 12 }
def B_X5_init : ST := sSeq (sObj (rL 0)) (sSeq (sSeq (sPutR 5 0 (rL 0) (rNewC (iC 60))) (sPut false 5 1 (rL 0) (iC 0))) sRetV)
def al_X5_init : List (Nat × Nat) := [(21, 60)]
def m_X5_init : Mt := mkM 1 al_X5_init B_X5_init
set_option maxRecDepth 20000 in
theorem ok_X5_init : MOkV yX5_init cX5_init 1 rm_X5_init m_X5_init := by
  unfold m_X5_init
  refine MOkV_mk (pe := 18) al_X5_init (by decide +kernel) (by decide) (by decide) ⟨by decide +kernel, by decide +kernel⟩ (fun Rt G hG => ?_)
  have hG : Mach RX5 cX5_init 1 "<init>" rm_X5_init none 3 0 (fun _ => 0) Rt G := hG
  unfold B_X5_init
  exact S_seq hG (p1 := 4) (S_obj hG (p1 := 1) oiX5_3 ⟨by decide, by decide⟩ (R_aload_n hG dX5_init_0 rfl (by decide)) dX5_init_1) (S_seq hG (p1 := 17) (S_seq hG (p1 := 12) (S_putR hG poX5_9 rfl (fun _ => rfl) (fun _ => rfl) (p1 := 5) (p2 := 9) (R_aload_n hG dX5_init_4 rfl (by decide)) (R_newC hG (p1 := 7) ac_char (I_bipush hG dX5_init_5 (by decide) ⟨by decide, by decide⟩) dX5_init_7) dX5_init_9) (S_putI hG poX5_15 (p1 := 13) (p2 := 14) (R_aload_n hG dX5_init_12 rfl (by decide)) (I_iconst hG dX5_init_13 (by decide) ⟨by decide, by decide⟩) dX5_init_14)) (S_retV hG rfl dX5_init_17))
abbrev rm_X2_init : Room := { frames := 1, cells := 0, slots := 0, locals := 12 }
def B_X2_init : ST := sSeq (sObj (rL 0)) (sSeq (sSeq (sPut false 2 0 (rL 0) (iC 0)) (sSeq (sPut true 2 1 (rL 0) (iC 0)) (sPut true 2 2 (rL 0) (iC 0)))) sRetV)
def m_X2_init : Mt := mk0 1 B_X2_init
set_option maxRecDepth 20000 in
theorem ok_X2_init : MOkV yX2_init cX2_init 1 rm_X2_init m_X2_init := by
  unfold m_X2_init
  refine MOkV_mk0 (pe := 20) (by decide +kernel) (by decide) (by decide) ⟨rfl, rfl⟩ (fun Rt G hG => ?_)
  have hG : Mach RX2 cX2_init 1 "<init>" rm_X2_init none 3 0 (fun _ => 0) Rt G := hG
  unfold B_X2_init
  exact S_seq hG (p1 := 4) (S_obj hG (p1 := 1) oiX2_3 ⟨by decide, by decide⟩ (R_aload_n hG dX2_init_0 rfl (by decide)) dX2_init_1) (S_seq hG (p1 := 19) (S_seq hG (p1 := 9) (S_putI hG poX2_9 (p1 := 5) (p2 := 6) (R_aload_n hG dX2_init_4 rfl (by decide)) (I_iconst hG dX2_init_5 (by decide) ⟨by decide, by decide⟩) dX2_init_6) (S_seq hG (p1 := 14) (S_putB hG poX2_15 (p1 := 10) (p2 := 11) (R_aload_n hG dX2_init_9 rfl (by decide)) (I_iconst hG dX2_init_10 (by decide) ⟨by decide, by decide⟩) dX2_init_11) (S_putB hG poX2_19 (p1 := 15) (p2 := 16) (R_aload_n hG dX2_init_14 rfl (by decide)) (I_iconst hG dX2_init_15 (by decide) ⟨by decide, by decide⟩) dX2_init_16))) (S_retV hG rfl dX2_init_19))
abbrev rm_X1_init : Room := { frames := 1, cells := 10, slots := 400, locals := 12 }
def B_X1_init : ST := sSeq (sObj (rL 0)) (sSeq (sSeq (sPutR 1 0 (rL 0) (rNewI (iC 40))) (sSeq (sPutR 1 1 (rL 0) (rNewI (iC 40))) (sSeq (sPutR 1 2 (rL 0) (rNewI (iC 40))) (sSeq (sPutR 1 3 (rL 0) (rNewI (iC 40))) (sSeq (sPutR 1 4 (rL 0) (rNewI (iC 40))) (sSeq (sPutR 1 5 (rL 0) (rNewI (iC 40))) (sSeq (sPutR 1 6 (rL 0) (rNewI (iC 40))) (sSeq (sPutR 1 7 (rL 0) (rNewI (iC 40))) (sSeq (sPutR 1 8 (rL 0) (rNewI (iC 40))) (sSeq (sPutR 1 9 (rL 0) (rNewI (iC 40))) (sSeq (sPut false 1 10 (rL 0) (iC 0)) (sPut false 1 11 (rL 0) (iC 0))))))))))))) sRetV)
def al_X1_init : List (Nat × Nat) := [(20, 40), (20, 40), (20, 40), (20, 40), (20, 40), (20, 40), (20, 40), (20, 40), (20, 40), (20, 40)]
def m_X1_init : Mt := mkM 1 al_X1_init B_X1_init
set_option maxRecDepth 20000 in
theorem ok_X1_init : MOkV yX1_init cX1_init 1 rm_X1_init m_X1_init := by
  unfold m_X1_init
  refine MOkV_mk (pe := 95) al_X1_init (by decide +kernel) (by decide) (by decide) ⟨by decide +kernel, by decide +kernel⟩ (fun Rt G hG => ?_)
  have hG : Mach RX1 cX1_init 1 "<init>" rm_X1_init none 3 0 (fun _ => 0) Rt G := hG
  unfold B_X1_init
  exact S_seq hG (p1 := 4) (S_obj hG (p1 := 1) oiX1_3 ⟨by decide, by decide⟩ (R_aload_n hG dX1_init_0 rfl (by decide)) dX1_init_1) (S_seq hG (p1 := 94) (S_seq hG (p1 := 12) (S_putR hG poX1_9 rfl (fun _ => rfl) (fun _ => rfl) (p1 := 5) (p2 := 9) (R_aload_n hG dX1_init_4 rfl (by decide)) (R_newI hG (p1 := 7) ac_int (I_bipush hG dX1_init_5 (by decide) ⟨by decide, by decide⟩) dX1_init_7) dX1_init_9) (S_seq hG (p1 := 20) (S_putR hG poX1_15 rfl (fun _ => rfl) (fun _ => rfl) (p1 := 13) (p2 := 17) (R_aload_n hG dX1_init_12 rfl (by decide)) (R_newI hG (p1 := 15) ac_int (I_bipush hG dX1_init_13 (by decide) ⟨by decide, by decide⟩) dX1_init_15) dX1_init_17) (S_seq hG (p1 := 28) (S_putR hG poX1_18 rfl (fun _ => rfl) (fun _ => rfl) (p1 := 21) (p2 := 25) (R_aload_n hG dX1_init_20 rfl (by decide)) (R_newI hG (p1 := 23) ac_int (I_bipush hG dX1_init_21 (by decide) ⟨by decide, by decide⟩) dX1_init_23) dX1_init_25) (S_seq hG (p1 := 36) (S_putR hG poX1_21 rfl (fun _ => rfl) (fun _ => rfl) (p1 := 29) (p2 := 33) (R_aload_n hG dX1_init_28 rfl (by decide)) (R_newI hG (p1 := 31) ac_int (I_bipush hG dX1_init_29 (by decide) ⟨by decide, by decide⟩) dX1_init_31) dX1_init_33) (S_seq hG (p1 := 44) (S_putR hG poX1_24 rfl (fun _ => rfl) (fun _ => rfl) (p1 := 37) (p2 := 41) (R_aload_n hG dX1_init_36 rfl (by decide)) (R_newI hG (p1 := 39) ac_int (I_bipush hG dX1_init_37 (by decide) ⟨by decide, by decide⟩) dX1_init_39) dX1_init_41) (S_seq hG (p1 := 52) (S_putR hG poX1_27 rfl (fun _ => rfl) (fun _ => rfl) (p1 := 45) (p2 := 49) (R_aload_n hG dX1_init_44 rfl (by decide)) (R_newI hG (p1 := 47) ac_int (I_bipush hG dX1_init_45 (by decide) ⟨by decide, by decide⟩) dX1_init_47) dX1_init_49) (S_seq hG (p1 := 60) (S_putR hG poX1_30 rfl (fun _ => rfl) (fun _ => rfl) (p1 := 53) (p2 := 57) (R_aload_n hG dX1_init_52 rfl (by decide)) (R_newI hG (p1 := 55) ac_int (I_bipush hG dX1_init_53 (by decide) ⟨by decide, by decide⟩) dX1_init_55) dX1_init_57) (S_seq hG (p1 := 68) (S_putR hG poX1_33 rfl (fun _ => rfl) (fun _ => rfl) (p1 := 61) (p2 := 65) (R_aload_n hG dX1_init_60 rfl (by decide)) (R_newI hG (p1 := 63) ac_int (I_bipush hG dX1_init_61 (by decide) ⟨by decide, by decide⟩) dX1_init_63) dX1_init_65) (S_seq hG (p1 := 76) (S_putR hG poX1_36 rfl (fun _ => rfl) (fun _ => rfl) (p1 := 69) (p2 := 73) (R_aload_n hG dX1_init_68 rfl (by decide)) (R_newI hG (p1 := 71) ac_int (I_bipush hG dX1_init_69 (by decide) ⟨by decide, by decide⟩) dX1_init_71) dX1_init_73) (S_seq hG (p1 := 84) (S_putR hG poX1_39 rfl (fun _ => rfl) (fun _ => rfl) (p1 := 77) (p2 := 81) (R_aload_n hG dX1_init_76 rfl (by decide)) (R_newI hG (p1 := 79) ac_int (I_bipush hG dX1_init_77 (by decide) ⟨by decide, by decide⟩) dX1_init_79) dX1_init_81) (S_seq hG (p1 := 89) (S_putI hG poX1_42 (p1 := 85) (p2 := 86) (R_aload_n hG dX1_init_84 rfl (by decide)) (I_iconst hG dX1_init_85 (by decide) ⟨by decide, by decide⟩) dX1_init_86) (S_putI hG poX1_46 (p1 := 90) (p2 := 91) (R_aload_n hG dX1_init_89 rfl (by decide)) (I_iconst hG dX1_init_90 (by decide) ⟨by decide, by decide⟩) dX1_init_91)))))))))))) (S_retV hG rfl dX1_init_94))
abbrev rm_X6_init : Room := { frames := 4, cells := 79, slots := 6181, locals := 74 }
def B_X6_init : ST := sSeq (sObj (rL 0)) (sSeq (sSeq (sPutR 6 0 (rL 0) (rNew 4 rm_X4_init.cells rm_X4_init.slots m_X4_init (aN))) (sSeq (sPutR 6 1 (rL 0) (rNew 4 rm_X4_init.cells rm_X4_init.slots m_X4_init (aN))) (sSeq (sPutR 6 2 (rL 0) (rNew 4 rm_X4_init.cells rm_X4_init.slots m_X4_init (aN))) (sSeq (sPut true 6 3 (rL 0) (iC 0)) (sSeq (sPutR 6 4 (rL 0) (rNew 0 rm_X0_init.cells rm_X0_init.slots m_X0_init (aN))) (sSeq (sPutR 6 5 (rL 0) (rNew 5 rm_X5_init.cells rm_X5_init.slots m_X5_init (aN))) (sSeq (sPutR 6 6 (rL 0) (rNew 2 rm_X2_init.cells rm_X2_init.slots m_X2_init (aN))) (sPutR 6 7 (rL 0) (rNew 1 rm_X1_init.cells rm_X1_init.slots m_X1_init (aN)))))))))) sRetV)
def al_X6_init : List (Nat × Nat) := [(4, 0), (3, 0), (20, 40), (20, 40), (20, 40), (20, 40), (20, 40), (20, 5), (20, 600), (4, 0), (3, 0), (20, 40), (20, 40), (20, 40), (20, 40), (20, 40), (20, 5), (20, 600), (4, 0), (3, 0), (20, 40), (20, 40), (20, 40), (20, 40), (20, 40), (20, 5), (20, 600), (0, 0), (22, 4), (4, 0), (3, 0), (20, 40), (20, 40), (20, 40), (20, 40), (20, 40), (20, 5), (20, 600), (4, 0), (3, 0), (20, 40), (20, 40), (20, 40), (20, 40), (20, 40), (20, 5), (20, 600), (4, 0), (3, 0), (20, 40), (20, 40), (20, 40), (20, 40), (20, 40), (20, 5), (20, 600), (4, 0), (3, 0), (20, 40), (20, 40), (20, 40), (20, 40), (20, 40), (20, 5), (20, 600), (5, 0), (21, 60), (2, 0), (1, 0), (20, 40), (20, 40), (20, 40), (20, 40), (20, 40), (20, 40), (20, 40), (20, 40), (20, 40), (20, 40)]
def m_X6_init : Mt := mkM 1 al_X6_init B_X6_init
set_option maxRecDepth 20000 in
theorem ok_X6_init : MOkV yX6_init cX6_init 1 rm_X6_init m_X6_init := by
  unfold m_X6_init
  refine MOkV_mk (pe := 87) al_X6_init (by decide +kernel) (by decide) (by decide) ⟨by decide +kernel, by decide +kernel⟩ (fun Rt G hG => ?_)
  have hG : Mach RX6 cX6_init 1 "<init>" rm_X6_init none 3 0 (fun _ => 0) Rt G := hG
  unfold B_X6_init
  exact S_seq hG (p1 := 4) (S_obj hG (p1 := 1) oiX6_1 ⟨by decide, by decide⟩ (R_aload_n hG dX6_init_0 rfl (by decide)) dX6_init_1) (S_seq hG (p1 := 86) (S_seq hG (p1 := 15) (S_putR hG poX6_10 rfl (fun _ => rfl) (fun _ => rfl) (p1 := 5) (p2 := 12) (R_aload_n hG dX6_init_4 rfl (by decide)) (R_new hG (p2 := 9) noX6_7 (by decide) ok_X4_init ckX6_9 ⟨by decide, by decide⟩ (by decide) dX6_init_5 dX6_init_8 (A_nil hG) dX6_init_9) dX6_init_12) (S_seq hG (p1 := 26) (S_putR hG poX6_16 rfl (fun _ => rfl) (fun _ => rfl) (p1 := 16) (p2 := 23) (R_aload_n hG dX6_init_15 rfl (by decide)) (R_new hG (p2 := 20) noX6_7 (by decide) ok_X4_init ckX6_9 ⟨by decide, by decide⟩ (by decide) dX6_init_16 dX6_init_19 (A_nil hG) dX6_init_20) dX6_init_23) (S_seq hG (p1 := 37) (S_putR hG poX6_19 rfl (fun _ => rfl) (fun _ => rfl) (p1 := 27) (p2 := 34) (R_aload_n hG dX6_init_26 rfl (by decide)) (R_new hG (p2 := 31) noX6_7 (by decide) ok_X4_init ckX6_9 ⟨by decide, by decide⟩ (by decide) dX6_init_27 dX6_init_30 (A_nil hG) dX6_init_31) dX6_init_34) (S_seq hG (p1 := 42) (S_putB hG poX6_22 (p1 := 38) (p2 := 39) (R_aload_n hG dX6_init_37 rfl (by decide)) (I_iconst hG dX6_init_38 (by decide) ⟨by decide, by decide⟩) dX6_init_39) (S_seq hG (p1 := 53) (S_putR hG poX6_29 rfl (fun _ => rfl) (fun _ => rfl) (p1 := 43) (p2 := 50) (R_aload_n hG dX6_init_42 rfl (by decide)) (R_new hG (p2 := 47) noX6_26 (by decide) ok_X0_init ckX6_28 ⟨by decide, by decide⟩ (by decide) dX6_init_43 dX6_init_46 (A_nil hG) dX6_init_47) dX6_init_50) (S_seq hG (p1 := 64) (S_putR hG poX6_36 rfl (fun _ => rfl) (fun _ => rfl) (p1 := 54) (p2 := 61) (R_aload_n hG dX6_init_53 rfl (by decide)) (R_newN hG (p2 := 58) noX6_33 (by decide) ok_X5_init ckX6_35 ⟨by decide, by decide⟩ (by decide) dX6_init_54 dX6_init_57 (A_nil hG) dX6_init_58) dX6_init_61) (S_seq hG (p1 := 75) (S_putR hG poX6_43 rfl (fun _ => rfl) (fun _ => rfl) (p1 := 65) (p2 := 72) (R_aload_n hG dX6_init_64 rfl (by decide)) (R_newN hG (p2 := 69) noX6_40 (by decide) ok_X2_init ckX6_42 ⟨by decide, by decide⟩ (by decide) dX6_init_65 dX6_init_68 (A_nil hG) dX6_init_69) dX6_init_72) (S_putR hG poX6_50 rfl (fun _ => rfl) (fun _ => rfl) (p1 := 76) (p2 := 83) (R_aload_n hG dX6_init_75 rfl (by decide)) (R_newN hG (p2 := 80) noX6_47 (by decide) ok_X1_init ckX6_49 ⟨by decide, by decide⟩ (by decide) dX6_init_76 dX6_init_79 (A_nil hG) dX6_init_80) dX6_init_83)))))))) (S_retV hG rfl dX6_init_86))
abbrev rm_X6_isWithin : Room := { frames := 0, cells := 0, slots := 0, locals := 0 }
def B_X6_isWithin : ST := sRet true (iQ (cAnd (cGe (iL 0) (iL 1)) (cLe (iL 0) (iL 2))) (iC 1) (iC 0))
def m_X6_isWithin : Mt := mk0 3 B_X6_isWithin
set_option maxRecDepth 20000 in
theorem ok_X6_isWithin : MOkI yX6_isWithin cX6_isWithin 3 .boolean rm_X6_isWithin m_X6_isWithin := by
  unfold m_X6_isWithin
  refine MOkI_mk0 (pe := 16) (by decide +kernel) (by decide) (by decide) ⟨rfl, rfl⟩ (fun Rt G hG => ?_)
  have hG : Mach RX6 cX6_isWithin 3 "isWithin" rm_X6_isWithin (some .boolean) 3 0 (fun _ => 0) Rt G := hG
  unfold B_X6_isWithin
  exact S_retB hG (p1 := 15) rfl rfl (I_ternX hG (p1 := 10) (p3 := 14) (p4 := 15) (C_and hG (p1 := 5) (C_ge_F hG (p1 := 1) (p2 := 2) (tgt := 14) (I_iload_n hG dX6_isWithin_0 rfl (by decide)) (I_iload_n hG dX6_isWithin_1 rfl (by decide)) dX6_isWithin_2 (by decide)) (C_le_F hG (p1 := 6) (p2 := 7) (tgt := 14) (I_iload_n hG dX6_isWithin_5 rfl (by decide)) (I_iload_n hG dX6_isWithin_6 rfl (by decide)) dX6_isWithin_7 (by decide))) (I_goto hG (I_iconst hG dX6_isWithin_10 (by decide) ⟨by decide, by decide⟩) dX6_isWithin_11 (p2 := 15) (by decide)) (I_iconst hG dX6_isWithin_14 (by decide) ⟨by decide, by decide⟩)) dX6_isWithin_15
abbrev rm_X3_has : Room := { frames := 0, cells := 0, slots := 0, locals := 0 }
def B_X3_has : ST := sRet true (iQ (cAnd (cAnd (cGe (iL 1) (iC 0)) (cLt (iL 1) (iF 3 5 (rL 0)))) (cLt (iL 1) (iC 40))) (iC 1) (iC 0))
def m_X3_has : Mt := mk0 2 B_X3_has
set_option maxRecDepth 20000 in
theorem ok_X3_has : MOkI yX3_has cX3_has 2 .boolean rm_X3_has m_X3_has := by
  unfold m_X3_has
  refine MOkI_mk0 (pe := 24) (by decide +kernel) (by decide) (by decide) ⟨rfl, rfl⟩ (fun Rt G hG => ?_)
  have hG : Mach RX3 cX3_has 2 "has" rm_X3_has (some .boolean) 3 0 (fun _ => 0) Rt G := hG
  unfold B_X3_has
  exact S_retB hG (p1 := 23) rfl rfl (I_ternX hG (p1 := 18) (p3 := 22) (p4 := 23) (C_and hG (p1 := 12) (C_and hG (p1 := 4) (C_ge_F0 hG (p1 := 1) (tgt := 22) (I_iload_n hG dX3_has_0 rfl (by decide)) dX3_has_1 (by decide)) (C_lt_F hG (p1 := 5) (p2 := 9) (tgt := 22) (I_iload_n hG dX3_has_4 rfl (by decide)) (I_getf hG foX3_27 (p1 := 6) (R_aload_n hG dX3_has_5 rfl (by decide)) dX3_has_6) dX3_has_9 (by decide))) (C_lt_F hG (p1 := 13) (p2 := 15) (tgt := 22) (I_iload_n hG dX3_has_12 rfl (by decide)) (I_bipush hG dX3_has_13 (by decide) ⟨by decide, by decide⟩) dX3_has_15 (by decide))) (I_goto hG (I_iconst hG dX3_has_18 (by decide) ⟨by decide, by decide⟩) dX3_has_19 (p2 := 23) (by decide)) (I_iconst hG dX3_has_22 (by decide) ⟨by decide, by decide⟩)) dX3_has_23
abbrev rm_X3_beginningOf : Room := { frames := 1, cells := 0, slots := 0, locals := 21 }
def B_X3_beginningOf : ST := sRet false (iQ (cNe (iCallV 3 m_X3_has (rL 0) (aI (iL 1) (aN))) (iC 0)) (iA (rF 3 0 (rL 0)) (iL 1)) (iC 0))
def m_X3_beginningOf : Mt := mk0 2 B_X3_beginningOf
set_option maxRecDepth 20000 in
theorem ok_X3_beginningOf : MOkI yX3_beginningOf cX3_beginningOf 2 .int rm_X3_beginningOf m_X3_beginningOf := by
  unfold m_X3_beginningOf
  refine MOkI_mk0 (pe := 19) (by decide +kernel) (by decide) (by decide) ⟨rfl, rfl⟩ (fun Rt G hG => ?_)
  have hG : Mach RX3 cX3_beginningOf 2 "beginningOf" rm_X3_beginningOf (some .int) 3 0 (fun _ => 0) Rt G := hG
  unfold B_X3_beginningOf
  exact S_ret hG (p1 := 18) rfl rfl (I_ternX hG (p1 := 8) (p3 := 17) (p4 := 18) (C_ne_F0 hG (p1 := 5) (tgt := 17) (I_callV hG (p1 := 1) (p2 := 2) ok_X3_has ckX3_31 ⟨rfl, rfl⟩ (by decide) rfl ⟨by decide, by decide⟩ (by decide) (R_aload_n hG dX3_beginningOf_0 rfl (by decide)) (A_int hG (p1 := 2) (I_iload_n hG dX3_beginningOf_1 rfl (by decide)) (A_nil hG)) dX3_beginningOf_2) dX3_beginningOf_5 (by decide)) (I_goto hG (I_iald hG (p1 := 12) (p2 := 13) (R_getf hG foX3_9 (p1 := 9) (R_aload_n hG dX3_beginningOf_8 rfl (by decide)) dX3_beginningOf_9) (I_iload_n hG dX3_beginningOf_12 rfl (by decide)) dX3_beginningOf_13) dX3_beginningOf_14 (p2 := 18) (by decide)) (I_iconst hG dX3_beginningOf_17 (by decide) ⟨by decide, by decide⟩)) dX3_beginningOf_18
abbrev rm_X3_lengthOf : Room := { frames := 1, cells := 0, slots := 0, locals := 21 }
def B_X3_lengthOf : ST := sRet false (iQ (cNe (iCallV 3 m_X3_has (rL 0) (aI (iL 1) (aN))) (iC 0)) (iA (rF 3 1 (rL 0)) (iL 1)) (iC 0))
def m_X3_lengthOf : Mt := mk0 2 B_X3_lengthOf
set_option maxRecDepth 20000 in
theorem ok_X3_lengthOf : MOkI yX3_lengthOf cX3_lengthOf 2 .int rm_X3_lengthOf m_X3_lengthOf := by
  unfold m_X3_lengthOf
  refine MOkI_mk0 (pe := 19) (by decide +kernel) (by decide) (by decide) ⟨rfl, rfl⟩ (fun Rt G hG => ?_)
  have hG : Mach RX3 cX3_lengthOf 2 "lengthOf" rm_X3_lengthOf (some .int) 3 0 (fun _ => 0) Rt G := hG
  unfold B_X3_lengthOf
  exact S_ret hG (p1 := 18) rfl rfl (I_ternX hG (p1 := 8) (p3 := 17) (p4 := 18) (C_ne_F0 hG (p1 := 5) (tgt := 17) (I_callV hG (p1 := 1) (p2 := 2) ok_X3_has ckX3_31 ⟨rfl, rfl⟩ (by decide) rfl ⟨by decide, by decide⟩ (by decide) (R_aload_n hG dX3_lengthOf_0 rfl (by decide)) (A_int hG (p1 := 2) (I_iload_n hG dX3_lengthOf_1 rfl (by decide)) (A_nil hG)) dX3_lengthOf_2) dX3_lengthOf_5 (by decide)) (I_goto hG (I_iald hG (p1 := 12) (p2 := 13) (R_getf hG foX3_15 (p1 := 9) (R_aload_n hG dX3_lengthOf_8 rfl (by decide)) dX3_lengthOf_9) (I_iload_n hG dX3_lengthOf_12 rfl (by decide)) dX3_lengthOf_13) dX3_lengthOf_14 (p2 := 18) (by decide)) (I_iconst hG dX3_lengthOf_17 (by decide) ⟨by decide, by decide⟩)) dX3_lengthOf_18
abbrev rm_X3_ticks : Room := { frames := 2, cells := 0, slots := 0, locals := 42 }
def B_X3_ticks : ST := sRet false (iAdd (iCallV 3 m_X3_beginningOf (rL 0) (aI (iSub (iF 3 5 (rL 0)) (iC 1)) (aN))) (iCallV 3 m_X3_lengthOf (rL 0) (aI (iSub (iF 3 5 (rL 0)) (iC 1)) (aN))))
def m_X3_ticks : Mt := mk0 1 B_X3_ticks
set_option maxRecDepth 20000 in
theorem ok_X3_ticks : MOkI yX3_ticks cX3_ticks 1 .int rm_X3_ticks m_X3_ticks := by
  unfold m_X3_ticks
  refine MOkI_mk0 (pe := 22) (by decide +kernel) (by decide) (by decide) ⟨rfl, rfl⟩ (fun Rt G hG => ?_)
  have hG : Mach RX3 cX3_ticks 1 "ticks" rm_X3_ticks (some .int) 3 0 (fun _ => 0) Rt G := hG
  unfold B_X3_ticks
  exact S_ret hG (p1 := 21) rfl rfl (I_iadd hG (p1 := 10) (p2 := 20) (I_callV hG (p1 := 1) (p2 := 7) ok_X3_beginningOf ckX3_35 ⟨rfl, rfl⟩ (by decide) rfl ⟨by decide, by decide⟩ (by decide) (R_aload_n hG dX3_ticks_0 rfl (by decide)) (A_int hG (p1 := 7) (I_isub hG (p1 := 5) (p2 := 6) (I_getf hG foX3_27 (p1 := 2) (R_aload_n hG dX3_ticks_1 rfl (by decide)) dX3_ticks_2) (I_iconst hG dX3_ticks_5 (by decide) ⟨by decide, by decide⟩) dX3_ticks_6) (A_nil hG)) dX3_ticks_7) (I_callV hG (p1 := 11) (p2 := 17) ok_X3_lengthOf ckX3_39 ⟨rfl, rfl⟩ (by decide) rfl ⟨by decide, by decide⟩ (by decide) (R_aload_n hG dX3_ticks_10 rfl (by decide)) (A_int hG (p1 := 17) (I_isub hG (p1 := 15) (p2 := 16) (I_getf hG foX3_27 (p1 := 12) (R_aload_n hG dX3_ticks_11 rfl (by decide)) dX3_ticks_12) (I_iconst hG dX3_ticks_15 (by decide) ⟨by decide, by decide⟩) dX3_ticks_16) (A_nil hG)) dX3_ticks_17) dX3_ticks_20) dX3_ticks_21
abbrev rm_X3_hasRoomFor : Room := { frames := 3, cells := 0, slots := 0, locals := 62 }
def B_X3_hasRoomFor : ST := sRet true (iQ (cAnd (cLt (iF 3 5 (rL 0)) (iC 40)) (cLe (iAdd (iAdd (iCallV 3 m_X3_ticks (rL 0) (aN)) (iL 1)) (iL 2)) (iC 600))) (iC 1) (iC 0))
def m_X3_hasRoomFor : Mt := mk0 3 B_X3_hasRoomFor
set_option maxRecDepth 20000 in
theorem ok_X3_hasRoomFor : MOkI yX3_hasRoomFor cX3_hasRoomFor 3 .boolean rm_X3_hasRoomFor m_X3_hasRoomFor := by
  unfold m_X3_hasRoomFor
  refine MOkI_mk0 (pe := 29) (by decide +kernel) (by decide) (by decide) ⟨rfl, rfl⟩ (fun Rt G hG => ?_)
  have hG : Mach RX3 cX3_hasRoomFor 3 "hasRoomFor" rm_X3_hasRoomFor (some .boolean) 3 0 (fun _ => 0) Rt G := hG
  unfold B_X3_hasRoomFor
  exact S_retB hG (p1 := 28) rfl rfl (I_ternX hG (p1 := 23) (p3 := 27) (p4 := 28) (C_and hG (p1 := 9) (C_lt_F hG (p1 := 4) (p2 := 6) (tgt := 27) (I_getf hG foX3_27 (p1 := 1) (R_aload_n hG dX3_hasRoomFor_0 rfl (by decide)) dX3_hasRoomFor_1) (I_bipush hG dX3_hasRoomFor_4 (by decide) ⟨by decide, by decide⟩) dX3_hasRoomFor_6 (by decide)) (C_le_F hG (p1 := 17) (p2 := 20) (tgt := 27) (I_iadd hG (p1 := 15) (p2 := 16) (I_iadd hG (p1 := 13) (p2 := 14) (I_callV hG (p1 := 10) (p2 := 10) ok_X3_ticks ckX3_51 ⟨rfl, rfl⟩ (by decide) rfl ⟨by decide, by decide⟩ (by decide) (R_aload_n hG dX3_hasRoomFor_9 rfl (by decide)) (A_nil hG) dX3_hasRoomFor_10) (I_iload_n hG dX3_hasRoomFor_13 rfl (by decide)) dX3_hasRoomFor_14) (I_iload_n hG dX3_hasRoomFor_15 rfl (by decide)) dX3_hasRoomFor_16) (I_sipush hG dX3_hasRoomFor_17 (by decide) ⟨by decide, by decide⟩) dX3_hasRoomFor_20 (by decide))) (I_goto hG (I_iconst hG dX3_hasRoomFor_23 (by decide) ⟨by decide, by decide⟩) dX3_hasRoomFor_24 (p2 := 28) (by decide)) (I_iconst hG dX3_hasRoomFor_27 (by decide) ⟨by decide, by decide⟩)) dX3_hasRoomFor_28
abbrev rm_X0_dropOldest : Room := { frames := 0, cells := 0, slots := 0, locals := 0 }
def B_X0_dropOldest : ST := sSeq (sSeq (sLocR 1 (rA (rF 0 0 (rL 0)) (iC 0))) (sSeq (sSeq (sLoc 2 (iC 1)) (sWhile (cLt (iL 2) (iC 4)) (sSeq (sRst (rF 0 0 (rL 0)) (iSub (iL 2) (iC 1)) (rA (rF 0 0 (rL 0)) (iL 2))) (sInc 2 1)))) (sSeq (sRst (rF 0 0 (rL 0)) (iC 3) (rL 1)) (sPut false 0 1 (rL 0) (iC 3))))) sRetV
def m_X0_dropOldest : Mt := mk0 1 B_X0_dropOldest
set_option maxRecDepth 20000 in
theorem ok_X0_dropOldest : MOkV yX0_dropOldest cX0_dropOldest 3 rm_X0_dropOldest m_X0_dropOldest := by
  unfold m_X0_dropOldest
  refine MOkV_mk0 (pe := 47) (by decide +kernel) (by decide) (by decide) ⟨rfl, rfl⟩ (fun Rt G hG => ?_)
  have hG : Mach RX0 cX0_dropOldest 3 "dropOldest" rm_X0_dropOldest none 3 0 (fun _ => 0) Rt G := hG
  unfold B_X0_dropOldest
  exact S_seq hG (p1 := 46) (S_seq hG (p1 := 7) (S_astore_n hG (p1 := 6) (R_aald hG (p1 := 4) (p2 := 5) (R_getf hG foX0_11 (p1 := 1) (R_aload_n hG dX0_dropOldest_0 rfl (by decide)) dX0_dropOldest_1) (I_iconst hG dX0_dropOldest_4 (by decide) ⟨by decide, by decide⟩) dX0_dropOldest_5) dX0_dropOldest_6 rfl (by decide)) (S_seq hG (p1 := 34) (S_seq hG (p1 := 9) (S_istore_n hG (p1 := 8) (I_iconst hG dX0_dropOldest_7 (by decide) ⟨by decide, by decide⟩) dX0_dropOldest_8 rfl (by decide)) (S_while hG (p1 := 14) (p2 := 34) (C_lt_F hG (p1 := 10) (p2 := 11) (tgt := 34) (I_iload_n hG dX0_dropOldest_9 rfl (by decide)) (I_iconst hG dX0_dropOldest_10 (by decide) ⟨by decide, by decide⟩) dX0_dropOldest_11 (by decide)) (S_seq hG (p1 := 28) (S_aast hG (p1 := 18) (p2 := 21) (p3 := 27) (R_getf hG foX0_11 (p1 := 15) (R_aload_n hG dX0_dropOldest_14 rfl (by decide)) dX0_dropOldest_15) (I_isub hG (p1 := 19) (p2 := 20) (I_iload_n hG dX0_dropOldest_18 rfl (by decide)) (I_iconst hG dX0_dropOldest_19 (by decide) ⟨by decide, by decide⟩) dX0_dropOldest_20) (R_aald hG (p1 := 25) (p2 := 26) (R_getf hG foX0_11 (p1 := 22) (R_aload_n hG dX0_dropOldest_21 rfl (by decide)) dX0_dropOldest_22) (I_iload_n hG dX0_dropOldest_25 rfl (by decide)) dX0_dropOldest_26) dX0_dropOldest_27) (S_goto hG (p2 := 9) (S_iinc hG dX0_dropOldest_28 (by decide)) dX0_dropOldest_31 (by decide))))) (S_seq hG (p1 := 41) (S_aast hG (p1 := 38) (p2 := 39) (p3 := 40) (R_getf hG foX0_11 (p1 := 35) (R_aload_n hG dX0_dropOldest_34 rfl (by decide)) dX0_dropOldest_35) (I_iconst hG dX0_dropOldest_38 (by decide) ⟨by decide, by decide⟩) (R_aload_n hG dX0_dropOldest_39 rfl (by decide)) dX0_dropOldest_40) (S_putI hG poX0_17 (p1 := 42) (p2 := 43) (R_aload_n hG dX0_dropOldest_41 rfl (by decide)) (I_iconst hG dX0_dropOldest_42 (by decide) ⟨by decide, by decide⟩) dX0_dropOldest_43)))) (S_retV hG rfl dX0_dropOldest_46)
abbrev rm_X3_copyFrom : Room := { frames := 1, cells := 0, slots := 0, locals := 18 }
def B_X3_copyFrom : ST := sSeq (sSeq (sCopy (rF 3 0 (rL 1)) (rF 3 0 (rL 0)) (iC 0) (iC 0) (iC 40)) (sSeq (sCopy (rF 3 1 (rL 1)) (rF 3 1 (rL 0)) (iC 0) (iC 0) (iC 40)) (sSeq (sCopy (rF 3 2 (rL 1)) (rF 3 2 (rL 0)) (iC 0) (iC 0) (iC 40)) (sSeq (sCopy (rF 3 3 (rL 1)) (rF 3 3 (rL 0)) (iC 0) (iC 0) (iC 40)) (sSeq (sCopy (rF 3 4 (rL 1)) (rF 3 4 (rL 0)) (iC 0) (iC 0) (iC 40)) (sPut false 3 5 (rL 0) (iF 3 5 (rL 1)))))))) sRetV
def m_X3_copyFrom : Mt := mk0 2 B_X3_copyFrom
set_option maxRecDepth 20000 in
theorem ok_X3_copyFrom : MOkV yX3_copyFrom cX3_copyFrom 2 rm_X3_copyFrom m_X3_copyFrom := by
  unfold m_X3_copyFrom
  refine MOkV_mk0 (pe := 84) (by decide +kernel) (by decide) (by decide) ⟨rfl, rfl⟩ (fun Rt G hG => ?_)
  have hG : Mach RX3 cX3_copyFrom 2 "copyFrom" rm_X3_copyFrom none 3 0 (fun _ => 0) Rt G := hG
  unfold B_X3_copyFrom
  exact S_seq hG (p1 := 83) (S_seq hG (p1 := 15) (S_copy hG coX3_58 ⟨by decide, by decide⟩ (p1 := 4) (p2 := 5) (p3 := 9) (p4 := 10) (p5 := 12) (R_getf hG foX3_9 (p1 := 1) (R_aload_n hG dX3_copyFrom_0 rfl (by decide)) dX3_copyFrom_1) (I_iconst hG dX3_copyFrom_4 (by decide) ⟨by decide, by decide⟩) (R_getf hG foX3_9 (p1 := 6) (R_aload_n hG dX3_copyFrom_5 rfl (by decide)) dX3_copyFrom_6) (I_iconst hG dX3_copyFrom_9 (by decide) ⟨by decide, by decide⟩) (I_bipush hG dX3_copyFrom_10 (by decide) ⟨by decide, by decide⟩) dX3_copyFrom_12) (S_seq hG (p1 := 30) (S_copy hG coX3_58 ⟨by decide, by decide⟩ (p1 := 19) (p2 := 20) (p3 := 24) (p4 := 25) (p5 := 27) (R_getf hG foX3_15 (p1 := 16) (R_aload_n hG dX3_copyFrom_15 rfl (by decide)) dX3_copyFrom_16) (I_iconst hG dX3_copyFrom_19 (by decide) ⟨by decide, by decide⟩) (R_getf hG foX3_15 (p1 := 21) (R_aload_n hG dX3_copyFrom_20 rfl (by decide)) dX3_copyFrom_21) (I_iconst hG dX3_copyFrom_24 (by decide) ⟨by decide, by decide⟩) (I_bipush hG dX3_copyFrom_25 (by decide) ⟨by decide, by decide⟩) dX3_copyFrom_27) (S_seq hG (p1 := 45) (S_copy hG coX3_58 ⟨by decide, by decide⟩ (p1 := 34) (p2 := 35) (p3 := 39) (p4 := 40) (p5 := 42) (R_getf hG foX3_18 (p1 := 31) (R_aload_n hG dX3_copyFrom_30 rfl (by decide)) dX3_copyFrom_31) (I_iconst hG dX3_copyFrom_34 (by decide) ⟨by decide, by decide⟩) (R_getf hG foX3_18 (p1 := 36) (R_aload_n hG dX3_copyFrom_35 rfl (by decide)) dX3_copyFrom_36) (I_iconst hG dX3_copyFrom_39 (by decide) ⟨by decide, by decide⟩) (I_bipush hG dX3_copyFrom_40 (by decide) ⟨by decide, by decide⟩) dX3_copyFrom_42) (S_seq hG (p1 := 60) (S_copy hG coX3_58 ⟨by decide, by decide⟩ (p1 := 49) (p2 := 50) (p3 := 54) (p4 := 55) (p5 := 57) (R_getf hG foX3_21 (p1 := 46) (R_aload_n hG dX3_copyFrom_45 rfl (by decide)) dX3_copyFrom_46) (I_iconst hG dX3_copyFrom_49 (by decide) ⟨by decide, by decide⟩) (R_getf hG foX3_21 (p1 := 51) (R_aload_n hG dX3_copyFrom_50 rfl (by decide)) dX3_copyFrom_51) (I_iconst hG dX3_copyFrom_54 (by decide) ⟨by decide, by decide⟩) (I_bipush hG dX3_copyFrom_55 (by decide) ⟨by decide, by decide⟩) dX3_copyFrom_57) (S_seq hG (p1 := 75) (S_copy hG coX3_58 ⟨by decide, by decide⟩ (p1 := 64) (p2 := 65) (p3 := 69) (p4 := 70) (p5 := 72) (R_getf hG foX3_24 (p1 := 61) (R_aload_n hG dX3_copyFrom_60 rfl (by decide)) dX3_copyFrom_61) (I_iconst hG dX3_copyFrom_64 (by decide) ⟨by decide, by decide⟩) (R_getf hG foX3_24 (p1 := 66) (R_aload_n hG dX3_copyFrom_65 rfl (by decide)) dX3_copyFrom_66) (I_iconst hG dX3_copyFrom_69 (by decide) ⟨by decide, by decide⟩) (I_bipush hG dX3_copyFrom_70 (by decide) ⟨by decide, by decide⟩) dX3_copyFrom_72) (S_putI hG poX3_27 (p1 := 76) (p2 := 80) (R_aload_n hG dX3_copyFrom_75 rfl (by decide)) (I_getf hG foX3_27 (p1 := 77) (R_aload_n hG dX3_copyFrom_76 rfl (by decide)) dX3_copyFrom_77) dX3_copyFrom_80)))))) (S_retV hG rfl dX3_copyFrom_83)
abbrev rm_X4_copyFrom : Room := { frames := 2, cells := 0, slots := 0, locals := 39 }
def B_X4_copyFrom : ST := sSeq (sSeq (sCallV 3 m_X3_copyFrom (rF 4 0 (rL 0)) (aR (rF 4 0 (rL 1)) (aN))) (sSeq (sCopy (rF 4 1 (rL 1)) (rF 4 1 (rL 0)) (iC 0) (iC 0) (iC 5)) (sCopy (rF 4 2 (rL 1)) (rF 4 2 (rL 0)) (iC 0) (iC 0) (iC 600)))) sRetV
def m_X4_copyFrom : Mt := mk0 2 B_X4_copyFrom
set_option maxRecDepth 20000 in
theorem ok_X4_copyFrom : MOkV yX4_copyFrom cX4_copyFrom 2 rm_X4_copyFrom m_X4_copyFrom := by
  unfold m_X4_copyFrom
  refine MOkV_mk0 (pe := 42) (by decide +kernel) (by decide) (by decide) ⟨rfl, rfl⟩ (fun Rt G hG => ?_)
  have hG : Mach RX4 cX4_copyFrom 2 "copyFrom" rm_X4_copyFrom none 3 0 (fun _ => 0) Rt G := hG
  unfold B_X4_copyFrom
  exact S_seq hG (p1 := 41) (S_seq hG (p1 := 11) (S_callV hG (p1 := 4) (p2 := 8) ok_X3_copyFrom ckX4_34 ⟨rfl, rfl⟩ (by decide) rfl ⟨by decide, by decide⟩ (R_getf hG foX4_12 (p1 := 1) (R_aload_n hG dX4_copyFrom_0 rfl (by decide)) dX4_copyFrom_1) (A_ref hG (p1 := 8) (R_getf hG foX4_12 (p1 := 5) (R_aload_n hG dX4_copyFrom_4 rfl (by decide)) dX4_copyFrom_5) (A_nil hG)) dX4_copyFrom_8) (S_seq hG (p1 := 25) (S_copy hG coX4_28 ⟨by decide, by decide⟩ (p1 := 15) (p2 := 16) (p3 := 20) (p4 := 21) (p5 := 22) (R_getf hG foX4_18 (p1 := 12) (R_aload_n hG dX4_copyFrom_11 rfl (by decide)) dX4_copyFrom_12) (I_iconst hG dX4_copyFrom_15 (by decide) ⟨by decide, by decide⟩) (R_getf hG foX4_18 (p1 := 17) (R_aload_n hG dX4_copyFrom_16 rfl (by decide)) dX4_copyFrom_17) (I_iconst hG dX4_copyFrom_20 (by decide) ⟨by decide, by decide⟩) (I_iconst hG dX4_copyFrom_21 (by decide) ⟨by decide, by decide⟩) dX4_copyFrom_22) (S_copy hG coX4_28 ⟨by decide, by decide⟩ (p1 := 29) (p2 := 30) (p3 := 34) (p4 := 35) (p5 := 38) (R_getf hG foX4_22 (p1 := 26) (R_aload_n hG dX4_copyFrom_25 rfl (by decide)) dX4_copyFrom_26) (I_iconst hG dX4_copyFrom_29 (by decide) ⟨by decide, by decide⟩) (R_getf hG foX4_22 (p1 := 31) (R_aload_n hG dX4_copyFrom_30 rfl (by decide)) dX4_copyFrom_31) (I_iconst hG dX4_copyFrom_34 (by decide) ⟨by decide, by decide⟩) (I_sipush hG dX4_copyFrom_35 (by decide) ⟨by decide, by decide⟩) dX4_copyFrom_38))) (S_retV hG rfl dX4_copyFrom_41)
abbrev rm_X0_record : Room := { frames := 3, cells := 0, slots := 0, locals := 60 }
def B_X0_record : ST := sSeq (sSeq (sIf1 (cGe (iF 0 1 (rL 0)) (iC 4)) (sCallV 0 m_X0_dropOldest (rL 0) (aN))) (sIf1 (cAnd (cNe (iCallS m_X6_isWithin (aI (iF 0 1 (rL 0)) (aI (iC 0) (aI (iC 3) (aN))))) (iC 0)) (cNot (cNull (rA (rF 0 0 (rL 0)) (iF 0 1 (rL 0)))))) (sSeq (sCallV 4 m_X4_copyFrom (rA (rF 0 0 (rL 0)) (iF 0 1 (rL 0))) (aR (rL 1) (aN))) (sPutAdd 0 1 (rL 0) (iC 1))))) sRetV
def m_X0_record : Mt := mk0 2 B_X0_record
set_option maxRecDepth 20000 in
theorem ok_X0_record : MOkV yX0_record cX0_record 2 rm_X0_record m_X0_record := by
  unfold m_X0_record
  refine MOkV_mk0 (pe := 60) (by decide +kernel) (by decide) (by decide) ⟨rfl, rfl⟩ (fun Rt G hG => ?_)
  have hG : Mach RX0 cX0_record 2 "record" rm_X0_record none 3 0 (fun _ => 0) Rt G := hG
  unfold B_X0_record
  exact S_seq hG (p1 := 59) (S_seq hG (p1 := 12) (S_if1 hG (p1 := 8) (p2 := 12) (C_ge_F hG (p1 := 4) (p2 := 5) (tgt := 12) (I_getf hG foX0_17 (p1 := 1) (R_aload_n hG dX0_record_0 rfl (by decide)) dX0_record_1) (I_iconst hG dX0_record_4 (by decide) ⟨by decide, by decide⟩) dX0_record_5 (by decide)) (S_callV hG (p1 := 9) (p2 := 9) ok_X0_dropOldest ckX0_22 ⟨rfl, rfl⟩ (by decide) rfl ⟨by decide, by decide⟩ (R_aload_n hG dX0_record_8 rfl (by decide)) (A_nil hG) dX0_record_9)) (S_if1 hG (p1 := 36) (p2 := 59) (C_and hG (p1 := 24) (C_ne_F0 hG (p1 := 21) (tgt := 59) (I_callN hG (p2 := 18) ok_X6_isWithin ckX0_25 ⟨rfl, rfl⟩ ⟨by decide, by decide⟩ (by decide) (A_int hG (p1 := 16) (I_getf hG foX0_17 (p1 := 13) (R_aload_n hG dX0_record_12 rfl (by decide)) dX0_record_13) (A_int hG (p1 := 17) (I_iconst hG dX0_record_16 (by decide) ⟨by decide, by decide⟩) (A_int hG (p1 := 18) (I_iconst hG dX0_record_17 (by decide) ⟨by decide, by decide⟩) (A_nil hG)))) dX0_record_18) dX0_record_21 (by decide)) (C_not hG (C_null hG (p1 := 33) (tgt := 59) (R_aald hG (p1 := 28) (p2 := 32) (R_getf hG foX0_11 (p1 := 25) (R_aload_n hG dX0_record_24 rfl (by decide)) dX0_record_25) (I_getf hG foX0_17 (p1 := 29) (R_aload_n hG dX0_record_28 rfl (by decide)) dX0_record_29) dX0_record_32) dX0_record_33 (by decide)))) (S_seq hG (p1 := 49) (S_callV hG (p1 := 45) (p2 := 46) ok_X4_copyFrom ckX0_29 ⟨rfl, rfl⟩ (by decide) rfl ⟨by decide, by decide⟩ (R_aald hG (p1 := 40) (p2 := 44) (R_getf hG foX0_11 (p1 := 37) (R_aload_n hG dX0_record_36 rfl (by decide)) dX0_record_37) (I_getf hG foX0_17 (p1 := 41) (R_aload_n hG dX0_record_40 rfl (by decide)) dX0_record_41) dX0_record_44) (A_ref hG (p1 := 46) (R_aload_n hG dX0_record_45 rfl (by decide)) (A_nil hG)) dX0_record_46) (S_putAdd hG foX0_17 poX0_17 (p1 := 50) (p2 := 55) (R_aload_n hG dX0_record_49 rfl (by decide)) dX0_record_50 dX0_record_51 (I_iconst hG dX0_record_54 (by decide) ⟨by decide, by decide⟩) dX0_record_55 dX0_record_56)))) (S_retV hG rfl dX0_record_59)
abbrev rm_X3_phraseOf : Room := { frames := 1, cells := 0, slots := 0, locals := 21 }
def B_X3_phraseOf : ST := sRet false (iQ (cNe (iCallV 3 m_X3_has (rL 0) (aI (iL 1) (aN))) (iC 0)) (iA (rF 3 4 (rL 0)) (iL 1)) (iC (-5)))
def m_X3_phraseOf : Mt := mk0 2 B_X3_phraseOf
set_option maxRecDepth 20000 in
theorem ok_X3_phraseOf : MOkI yX3_phraseOf cX3_phraseOf 2 .int rm_X3_phraseOf m_X3_phraseOf := by
  unfold m_X3_phraseOf
  refine MOkI_mk0 (pe := 20) (by decide +kernel) (by decide) (by decide) ⟨rfl, rfl⟩ (fun Rt G hG => ?_)
  have hG : Mach RX3 cX3_phraseOf 2 "phraseOf" rm_X3_phraseOf (some .int) 3 0 (fun _ => 0) Rt G := hG
  unfold B_X3_phraseOf
  exact S_ret hG (p1 := 19) rfl rfl (I_ternX hG (p1 := 8) (p3 := 17) (p4 := 19) (C_ne_F0 hG (p1 := 5) (tgt := 17) (I_callV hG (p1 := 1) (p2 := 2) ok_X3_has ckX3_31 ⟨rfl, rfl⟩ (by decide) rfl ⟨by decide, by decide⟩ (by decide) (R_aload_n hG dX3_phraseOf_0 rfl (by decide)) (A_int hG (p1 := 2) (I_iload_n hG dX3_phraseOf_1 rfl (by decide)) (A_nil hG)) dX3_phraseOf_2) dX3_phraseOf_5 (by decide)) (I_goto hG (I_iald hG (p1 := 12) (p2 := 13) (R_getf hG foX3_24 (p1 := 9) (R_aload_n hG dX3_phraseOf_8 rfl (by decide)) dX3_phraseOf_9) (I_iload_n hG dX3_phraseOf_12 rfl (by decide)) dX3_phraseOf_13) dX3_phraseOf_14 (p2 := 19) (by decide)) (I_bipush hG dX3_phraseOf_17 (by decide) ⟨by decide, by decide⟩)) dX3_phraseOf_19
abbrev rm_X3_phraseCount : Room := { frames := 2, cells := 0, slots := 0, locals := 42 }
def B_X3_phraseCount : ST := sRet false (iQ (cEq (iF 3 5 (rL 0)) (iC 0)) (iC 0) (iAdd (iCallV 3 m_X3_phraseOf (rL 0) (aI (iSub (iF 3 5 (rL 0)) (iC 1)) (aN))) (iC 1)))
def m_X3_phraseCount : Mt := mk0 1 B_X3_phraseCount
set_option maxRecDepth 20000 in
theorem ok_X3_phraseCount : MOkI yX3_phraseCount cX3_phraseCount 1 .int rm_X3_phraseCount m_X3_phraseCount := by
  unfold m_X3_phraseCount
  refine MOkI_mk0 (pe := 24) (by decide +kernel) (by decide) (by decide) ⟨rfl, rfl⟩ (fun Rt G hG => ?_)
  have hG : Mach RX3 cX3_phraseCount 1 "phraseCount" rm_X3_phraseCount (some .int) 3 0 (fun _ => 0) Rt G := hG
  unfold B_X3_phraseCount
  exact S_ret hG (p1 := 23) rfl rfl (I_ternX hG (p1 := 7) (p3 := 11) (p4 := 23) (C_eq_F0 hG (p1 := 4) (tgt := 11) (I_getf hG foX3_27 (p1 := 1) (R_aload_n hG dX3_phraseCount_0 rfl (by decide)) dX3_phraseCount_1) dX3_phraseCount_4 (by decide)) (I_goto hG (I_iconst hG dX3_phraseCount_7 (by decide) ⟨by decide, by decide⟩) dX3_phraseCount_8 (p2 := 23) (by decide)) (I_iadd hG (p1 := 21) (p2 := 22) (I_callV hG (p1 := 12) (p2 := 18) ok_X3_phraseOf ckX3_42 ⟨rfl, rfl⟩ (by decide) rfl ⟨by decide, by decide⟩ (by decide) (R_aload_n hG dX3_phraseCount_11 rfl (by decide)) (A_int hG (p1 := 18) (I_isub hG (p1 := 16) (p2 := 17) (I_getf hG foX3_27 (p1 := 13) (R_aload_n hG dX3_phraseCount_12 rfl (by decide)) dX3_phraseCount_13) (I_iconst hG dX3_phraseCount_16 (by decide) ⟨by decide, by decide⟩) dX3_phraseCount_17) (A_nil hG)) dX3_phraseCount_18) (I_iconst hG dX3_phraseCount_21 (by decide) ⟨by decide, by decide⟩) dX3_phraseCount_22)) dX3_phraseCount_23
abbrev rm_X3_append : Room := { frames := 3, cells := 0, slots := 0, locals := 62 }
def B_X3_append : ST := sSeq (sIf1 (cOr (cLt (iF 3 5 (rL 0)) (iC 0)) (cGe (iF 3 5 (rL 0)) (iC 40))) (sRet false (iC (-3)))) (sSeq (sLoc 6 (iAdd (iCallV 3 m_X3_ticks (rL 0) (aN)) (iL 1))) (sSeq (sLoc 7 (iQ (cOr (cEq (iF 3 5 (rL 0)) (iC 0)) (cNe (iL 5) (iC 0))) (iCallV 3 m_X3_phraseCount (rL 0) (aN)) (iSub (iCallV 3 m_X3_phraseCount (rL 0) (aN)) (iC 1)))) (sSeq (sAst (rF 3 0 (rL 0)) (iF 3 5 (rL 0)) (iL 6)) (sSeq (sAst (rF 3 1 (rL 0)) (iF 3 5 (rL 0)) (iL 4)) (sSeq (sAst (rF 3 2 (rL 0)) (iF 3 5 (rL 0)) (iL 2)) (sSeq (sAst (rF 3 3 (rL 0)) (iF 3 5 (rL 0)) (iL 3)) (sSeq (sAst (rF 3 4 (rL 0)) (iF 3 5 (rL 0)) (iL 7)) (sSeq (sPutAdd 3 5 (rL 0) (iC 1)) (sRet false (iL 6))))))))))
def m_X3_append : Mt := mk0 6 B_X3_append
set_option maxRecDepth 20000 in
theorem ok_X3_append : MOkI yX3_append cX3_append 8 .int rm_X3_append m_X3_append := by
  unfold m_X3_append
  refine MOkI_mk0 (pe := 120) (by decide +kernel) (by decide) (by decide) ⟨rfl, rfl⟩ (fun Rt G hG => ?_)
  have hG : Mach RX3 cX3_append 8 "append" rm_X3_append (some .int) 3 0 (fun _ => 0) Rt G := hG
  unfold B_X3_append
  exact S_seq hG (p1 := 19) (S_if1 hG (p1 := 16) (p2 := 19) (C_or hG (p1 := 7) (C_lt_T0 hG (p1 := 4) (tgt := 16) (I_getf hG foX3_27 (p1 := 1) (R_aload_n hG dX3_append_0 rfl (by decide)) dX3_append_1) dX3_append_4 (by decide)) (C_ge_F hG (p1 := 11) (p2 := 13) (tgt := 19) (I_getf hG foX3_27 (p1 := 8) (R_aload_n hG dX3_append_7 rfl (by decide)) dX3_append_8) (I_bipush hG dX3_append_11 (by decide) ⟨by decide, by decide⟩) dX3_append_13 (by decide))) (S_ret hG (p1 := 18) rfl rfl (I_bipush hG dX3_append_16 (by decide) ⟨by decide, by decide⟩) dX3_append_18)) (S_seq hG (p1 := 27) (S_istore hG (p1 := 25) (I_iadd hG (p1 := 23) (p2 := 24) (I_callV hG (p1 := 20) (p2 := 20) ok_X3_ticks ckX3_51 ⟨rfl, rfl⟩ (by decide) rfl ⟨by decide, by decide⟩ (by decide) (R_aload_n hG dX3_append_19 rfl (by decide)) (A_nil hG) dX3_append_20) (I_iload_n hG dX3_append_23 rfl (by decide)) dX3_append_24) dX3_append_25 (by decide)) (S_seq hG (p1 := 54) (S_istore hG (p1 := 52) (I_ternX hG (p1 := 39) (p3 := 46) (p4 := 52) (C_or hG (p1 := 34) (C_eq_T0 hG (p1 := 31) (tgt := 39) (I_getf hG foX3_27 (p1 := 28) (R_aload_n hG dX3_append_27 rfl (by decide)) dX3_append_28) dX3_append_31 (by decide)) (C_ne_F0 hG (p1 := 36) (tgt := 46) (I_iload hG dX3_append_34 (by decide)) dX3_append_36 (by decide))) (I_goto hG (I_callV hG (p1 := 40) (p2 := 40) ok_X3_phraseCount ckX3_55 ⟨rfl, rfl⟩ (by decide) rfl ⟨by decide, by decide⟩ (by decide) (R_aload_n hG dX3_append_39 rfl (by decide)) (A_nil hG) dX3_append_40) dX3_append_43 (p2 := 52) (by decide)) (I_isub hG (p1 := 50) (p2 := 51) (I_callV hG (p1 := 47) (p2 := 47) ok_X3_phraseCount ckX3_55 ⟨rfl, rfl⟩ (by decide) rfl ⟨by decide, by decide⟩ (by decide) (R_aload_n hG dX3_append_46 rfl (by decide)) (A_nil hG) dX3_append_47) (I_iconst hG dX3_append_50 (by decide) ⟨by decide, by decide⟩) dX3_append_51)) dX3_append_52 (by decide)) (S_seq hG (p1 := 65) (S_iast hG (p1 := 58) (p2 := 62) (p3 := 64) (R_getf hG foX3_9 (p1 := 55) (R_aload_n hG dX3_append_54 rfl (by decide)) dX3_append_55) (I_getf hG foX3_27 (p1 := 59) (R_aload_n hG dX3_append_58 rfl (by decide)) dX3_append_59) (I_iload hG dX3_append_62 (by decide)) dX3_append_64) (S_seq hG (p1 := 76) (S_iast hG (p1 := 69) (p2 := 73) (p3 := 75) (R_getf hG foX3_15 (p1 := 66) (R_aload_n hG dX3_append_65 rfl (by decide)) dX3_append_66) (I_getf hG foX3_27 (p1 := 70) (R_aload_n hG dX3_append_69 rfl (by decide)) dX3_append_70) (I_iload hG dX3_append_73 (by decide)) dX3_append_75) (S_seq hG (p1 := 86) (S_iast hG (p1 := 80) (p2 := 84) (p3 := 85) (R_getf hG foX3_18 (p1 := 77) (R_aload_n hG dX3_append_76 rfl (by decide)) dX3_append_77) (I_getf hG foX3_27 (p1 := 81) (R_aload_n hG dX3_append_80 rfl (by decide)) dX3_append_81) (I_iload_n hG dX3_append_84 rfl (by decide)) dX3_append_85) (S_seq hG (p1 := 96) (S_iast hG (p1 := 90) (p2 := 94) (p3 := 95) (R_getf hG foX3_21 (p1 := 87) (R_aload_n hG dX3_append_86 rfl (by decide)) dX3_append_87) (I_getf hG foX3_27 (p1 := 91) (R_aload_n hG dX3_append_90 rfl (by decide)) dX3_append_91) (I_iload_n hG dX3_append_94 rfl (by decide)) dX3_append_95) (S_seq hG (p1 := 107) (S_iast hG (p1 := 100) (p2 := 104) (p3 := 106) (R_getf hG foX3_24 (p1 := 97) (R_aload_n hG dX3_append_96 rfl (by decide)) dX3_append_97) (I_getf hG foX3_27 (p1 := 101) (R_aload_n hG dX3_append_100 rfl (by decide)) dX3_append_101) (I_iload hG dX3_append_104 (by decide)) dX3_append_106) (S_seq hG (p1 := 117) (S_putAdd hG foX3_27 poX3_27 (p1 := 108) (p2 := 113) (R_aload_n hG dX3_append_107 rfl (by decide)) dX3_append_108 dX3_append_109 (I_iconst hG dX3_append_112 (by decide) ⟨by decide, by decide⟩) dX3_append_113 dX3_append_114) (S_ret hG (p1 := 119) rfl rfl (I_iload hG dX3_append_117 (by decide)) dX3_append_119)))))))))
abbrev rm_X6_add : Room := { frames := 4, cells := 0, slots := 0, locals := 89 }
def B_X6_add : ST := sSeq (sIf1 (cOr (cNot (cNe (iCallS m_X6_isWithin (aI (iL 1) (aI (iC 0) (aI (iC 32) (aN))))) (iC 0))) (cNot (cNe (iCallS m_X6_isWithin (aI (iL 4) (aI (iC 1) (aI (iC 32) (aN))))) (iC 0)))) (sRet false (iC (-2)))) (sSeq (sIf1 (cOr (cNot (cNe (iCallS m_X6_isWithin (aI (iL 2) (aI (iC 0) (aI (iC 60) (aN))))) (iC 0))) (cNot (cNe (iCallS m_X6_isWithin (aI (iL 3) (aI (iC 0) (aI (iC 60) (aN))))) (iC 0)))) (sRet false (iC (-2)))) (sSeq (sIf1 (cNot (cNe (iCallV 3 m_X3_hasRoomFor (rF 4 0 (rF 6 0 (rL 0))) (aI (iL 1) (aI (iL 4) (aN)))) (iC 0))) (sRet false (iC (-3)))) (sSeq (sCallV 0 m_X0_record (rF 6 4 (rL 0)) (aR (rF 6 0 (rL 0)) (aN))) (sRet false (iCallV 3 m_X3_append (rF 4 0 (rF 6 0 (rL 0))) (aI (iL 1) (aI (iL 2) (aI (iL 3) (aI (iL 4) (aI (iL 5) (aN)))))))))))
def m_X6_add : Mt := mk0 6 B_X6_add
set_option maxRecDepth 20000 in
theorem ok_X6_add : MOkI yX6_add cX6_add 6 .int rm_X6_add m_X6_add := by
  unfold m_X6_add
  refine MOkI_mk0 (pe := 95) (by decide +kernel) (by decide) (by decide) ⟨rfl, rfl⟩ (fun Rt G hG => ?_)
  have hG : Mach RX6 cX6_add 6 "add" rm_X6_add (some .int) 3 0 (fun _ => 0) Rt G := hG
  unfold B_X6_add
  exact S_seq hG (p1 := 24) (S_if1 hG (p1 := 21) (p2 := 24) (C_or hG (p1 := 10) (C_not hG (C_ne_F0 hG (p1 := 7) (tgt := 21) (I_callS hG (p2 := 4) ok_X6_isWithin ckX6_54 ⟨rfl, rfl⟩ ⟨by decide, by decide⟩ (by decide) (A_int hG (p1 := 1) (I_iload_n hG dX6_add_0 rfl (by decide)) (A_int hG (p1 := 2) (I_iconst hG dX6_add_1 (by decide) ⟨by decide, by decide⟩) (A_int hG (p1 := 4) (I_bipush hG dX6_add_2 (by decide) ⟨by decide, by decide⟩) (A_nil hG)))) dX6_add_4) dX6_add_7 (by decide))) (C_not hG (C_ne_T0 hG (p1 := 18) (tgt := 24) (I_callS hG (p2 := 15) ok_X6_isWithin ckX6_54 ⟨rfl, rfl⟩ ⟨by decide, by decide⟩ (by decide) (A_int hG (p1 := 12) (I_iload hG dX6_add_10 (by decide)) (A_int hG (p1 := 13) (I_iconst hG dX6_add_12 (by decide) ⟨by decide, by decide⟩) (A_int hG (p1 := 15) (I_bipush hG dX6_add_13 (by decide) ⟨by decide, by decide⟩) (A_nil hG)))) dX6_add_15) dX6_add_18 (by decide)))) (S_ret hG (p1 := 23) rfl rfl (I_bipush hG dX6_add_21 (by decide) ⟨by decide, by decide⟩) dX6_add_23)) (S_seq hG (p1 := 47) (S_if1 hG (p1 := 44) (p2 := 47) (C_or hG (p1 := 34) (C_not hG (C_ne_F0 hG (p1 := 31) (tgt := 44) (I_callS hG (p2 := 28) ok_X6_isWithin ckX6_54 ⟨rfl, rfl⟩ ⟨by decide, by decide⟩ (by decide) (A_int hG (p1 := 25) (I_iload_n hG dX6_add_24 rfl (by decide)) (A_int hG (p1 := 26) (I_iconst hG dX6_add_25 (by decide) ⟨by decide, by decide⟩) (A_int hG (p1 := 28) (I_bipush hG dX6_add_26 (by decide) ⟨by decide, by decide⟩) (A_nil hG)))) dX6_add_28) dX6_add_31 (by decide))) (C_not hG (C_ne_T0 hG (p1 := 41) (tgt := 47) (I_callS hG (p2 := 38) ok_X6_isWithin ckX6_54 ⟨rfl, rfl⟩ ⟨by decide, by decide⟩ (by decide) (A_int hG (p1 := 35) (I_iload_n hG dX6_add_34 rfl (by decide)) (A_int hG (p1 := 36) (I_iconst hG dX6_add_35 (by decide) ⟨by decide, by decide⟩) (A_int hG (p1 := 38) (I_bipush hG dX6_add_36 (by decide) ⟨by decide, by decide⟩) (A_nil hG)))) dX6_add_38) dX6_add_41 (by decide)))) (S_ret hG (p1 := 46) rfl rfl (I_bipush hG dX6_add_44 (by decide) ⟨by decide, by decide⟩) dX6_add_46)) (S_seq hG (p1 := 66) (S_if1 hG (p1 := 63) (p2 := 66) (C_not hG (C_ne_T0 hG (p1 := 60) (tgt := 66) (I_callV hG (p1 := 54) (p2 := 57) ok_X3_hasRoomFor ckX6_62 ⟨rfl, rfl⟩ (by decide) rfl ⟨by decide, by decide⟩ (by decide) (R_getf hG foX6_58 (p1 := 51) (R_getf hG foX6_10 (p1 := 48) (R_aload_n hG dX6_add_47 rfl (by decide)) dX6_add_48) dX6_add_51) (A_int hG (p1 := 55) (I_iload_n hG dX6_add_54 rfl (by decide)) (A_int hG (p1 := 57) (I_iload hG dX6_add_55 (by decide)) (A_nil hG))) dX6_add_57) dX6_add_60 (by decide))) (S_ret hG (p1 := 65) rfl rfl (I_bipush hG dX6_add_63 (by decide) ⟨by decide, by decide⟩) dX6_add_65)) (S_seq hG (p1 := 77) (S_callV hG (p1 := 70) (p2 := 74) ok_X0_record ckX6_68 ⟨rfl, rfl⟩ (by decide) rfl ⟨by decide, by decide⟩ (R_getf hG foX6_29 (p1 := 67) (R_aload_n hG dX6_add_66 rfl (by decide)) dX6_add_67) (A_ref hG (p1 := 74) (R_getf hG foX6_10 (p1 := 71) (R_aload_n hG dX6_add_70 rfl (by decide)) dX6_add_71) (A_nil hG)) dX6_add_74) (S_ret hG (p1 := 94) rfl rfl (I_callV hG (p1 := 84) (p2 := 91) ok_X3_append ckX6_72 ⟨rfl, rfl⟩ (by decide) rfl ⟨by decide, by decide⟩ (by decide) (R_getf hG foX6_58 (p1 := 81) (R_getf hG foX6_10 (p1 := 78) (R_aload_n hG dX6_add_77 rfl (by decide)) dX6_add_78) dX6_add_81) (A_int hG (p1 := 85) (I_iload_n hG dX6_add_84 rfl (by decide)) (A_int hG (p1 := 86) (I_iload_n hG dX6_add_85 rfl (by decide)) (A_int hG (p1 := 87) (I_iload_n hG dX6_add_86 rfl (by decide)) (A_int hG (p1 := 89) (I_iload hG dX6_add_87 (by decide)) (A_int hG (p1 := 91) (I_iload hG dX6_add_89 (by decide)) (A_nil hG)))))) dX6_add_91) dX6_add_94))))
abbrev rm_X3_size : Room := { frames := 0, cells := 0, slots := 0, locals := 0 }
def B_X3_size : ST := sRet false (iF 3 5 (rL 0))
def m_X3_size : Mt := mk0 1 B_X3_size
set_option maxRecDepth 20000 in
theorem ok_X3_size : MOkI yX3_size cX3_size 1 .int rm_X3_size m_X3_size := by
  unfold m_X3_size
  refine MOkI_mk0 (pe := 5) (by decide +kernel) (by decide) (by decide) ⟨rfl, rfl⟩ (fun Rt G hG => ?_)
  have hG : Mach RX3 cX3_size 1 "size" rm_X3_size (some .int) 3 0 (fun _ => 0) Rt G := hG
  unfold B_X3_size
  exact S_ret hG (p1 := 4) rfl rfl (I_getf hG foX3_27 (p1 := 1) (R_aload_n hG dX3_size_0 rfl (by decide)) dX3_size_1) dX3_size_4
abbrev rm_X3_removeLast : Room := { frames := 0, cells := 0, slots := 0, locals := 0 }
def B_X3_removeLast : ST := sSeq (sIf1 (cGt (iF 3 5 (rL 0)) (iC 0)) (sPutSub 3 5 (rL 0) (iC 1))) (sRet false (iF 3 5 (rL 0)))
def m_X3_removeLast : Mt := mk0 1 B_X3_removeLast
set_option maxRecDepth 20000 in
theorem ok_X3_removeLast : MOkI yX3_removeLast cX3_removeLast 1 .int rm_X3_removeLast m_X3_removeLast := by
  unfold m_X3_removeLast
  refine MOkI_mk0 (pe := 22) (by decide +kernel) (by decide) (by decide) ⟨rfl, rfl⟩ (fun Rt G hG => ?_)
  have hG : Mach RX3 cX3_removeLast 1 "removeLast" rm_X3_removeLast (some .int) 3 0 (fun _ => 0) Rt G := hG
  unfold B_X3_removeLast
  exact S_seq hG (p1 := 17) (S_if1 hG (p1 := 7) (p2 := 17) (C_gt_F0 hG (p1 := 4) (tgt := 17) (I_getf hG foX3_27 (p1 := 1) (R_aload_n hG dX3_removeLast_0 rfl (by decide)) dX3_removeLast_1) dX3_removeLast_4 (by decide)) (S_putSub hG foX3_27 poX3_27 (p1 := 8) (p2 := 13) (R_aload_n hG dX3_removeLast_7 rfl (by decide)) dX3_removeLast_8 dX3_removeLast_9 (I_iconst hG dX3_removeLast_12 (by decide) ⟨by decide, by decide⟩) dX3_removeLast_13 dX3_removeLast_14)) (S_ret hG (p1 := 21) rfl rfl (I_getf hG foX3_27 (p1 := 18) (R_aload_n hG dX3_removeLast_17 rfl (by decide)) dX3_removeLast_18) dX3_removeLast_21)
abbrev rm_X6_drop : Room := { frames := 4, cells := 0, slots := 0, locals := 81 }
def B_X6_drop : ST := sSeq (sIf1 (cEq (iCallV 3 m_X3_size (rF 4 0 (rF 6 0 (rL 0))) (aN)) (iC 0)) (sRet false (iC (-5)))) (sSeq (sCallV 0 m_X0_record (rF 6 4 (rL 0)) (aR (rF 6 0 (rL 0)) (aN))) (sRet false (iCallV 3 m_X3_removeLast (rF 4 0 (rF 6 0 (rL 0))) (aN))))
def m_X6_drop : Mt := mk0 1 B_X6_drop
set_option maxRecDepth 20000 in
theorem ok_X6_drop : MOkI yX6_drop cX6_drop 1 .int rm_X6_drop m_X6_drop := by
  unfold m_X6_drop
  refine MOkI_mk0 (pe := 38) (by decide +kernel) (by decide) (by decide) ⟨rfl, rfl⟩ (fun Rt G hG => ?_)
  have hG : Mach RX6 cX6_drop 1 "drop" rm_X6_drop (some .int) 3 0 (fun _ => 0) Rt G := hG
  unfold B_X6_drop
  exact S_seq hG (p1 := 16) (S_if1 hG (p1 := 13) (p2 := 16) (C_eq_F0 hG (p1 := 10) (tgt := 16) (I_callV hG (p1 := 7) (p2 := 7) ok_X3_size ckX6_76 ⟨rfl, rfl⟩ (by decide) rfl ⟨by decide, by decide⟩ (by decide) (R_getf hG foX6_58 (p1 := 4) (R_getf hG foX6_10 (p1 := 1) (R_aload_n hG dX6_drop_0 rfl (by decide)) dX6_drop_1) dX6_drop_4) (A_nil hG) dX6_drop_7) dX6_drop_10 (by decide)) (S_ret hG (p1 := 15) rfl rfl (I_bipush hG dX6_drop_13 (by decide) ⟨by decide, by decide⟩) dX6_drop_15)) (S_seq hG (p1 := 27) (S_callV hG (p1 := 20) (p2 := 24) ok_X0_record ckX6_68 ⟨rfl, rfl⟩ (by decide) rfl ⟨by decide, by decide⟩ (R_getf hG foX6_29 (p1 := 17) (R_aload_n hG dX6_drop_16 rfl (by decide)) dX6_drop_17) (A_ref hG (p1 := 24) (R_getf hG foX6_10 (p1 := 21) (R_aload_n hG dX6_drop_20 rfl (by decide)) dX6_drop_21) (A_nil hG)) dX6_drop_24) (S_ret hG (p1 := 37) rfl rfl (I_callV hG (p1 := 34) (p2 := 34) ok_X3_removeLast ckX6_80 ⟨rfl, rfl⟩ (by decide) rfl ⟨by decide, by decide⟩ (by decide) (R_getf hG foX6_58 (p1 := 31) (R_getf hG foX6_10 (p1 := 28) (R_aload_n hG dX6_drop_27 rfl (by decide)) dX6_drop_28) dX6_drop_31) (A_nil hG) dX6_drop_34) dX6_drop_37))
abbrev rm_X6_isSetting : Room := { frames := 1, cells := 0, slots := 0, locals := 22 }
def B_X6_isSetting : ST := sRet true (iCallS m_X6_isWithin (aI (iL 0) (aI (iC 0) (aI (iC 4) (aN)))))
def m_X6_isSetting : Mt := mk0 1 B_X6_isSetting
set_option maxRecDepth 20000 in
theorem ok_X6_isSetting : MOkI yX6_isSetting cX6_isSetting 1 .boolean rm_X6_isSetting m_X6_isSetting := by
  unfold m_X6_isSetting
  refine MOkI_mk0 (pe := 7) (by decide +kernel) (by decide) (by decide) ⟨rfl, rfl⟩ (fun Rt G hG => ?_)
  have hG : Mach RX6 cX6_isSetting 1 "isSetting" rm_X6_isSetting (some .boolean) 3 0 (fun _ => 0) Rt G := hG
  unfold B_X6_isSetting
  exact S_retB hG (p1 := 6) rfl rfl (I_callS hG (p2 := 3) ok_X6_isWithin ckX6_54 ⟨rfl, rfl⟩ ⟨by decide, by decide⟩ (by decide) (A_int hG (p1 := 1) (I_iload_n hG dX6_isSetting_0 rfl (by decide)) (A_int hG (p1 := 2) (I_iconst hG dX6_isSetting_1 (by decide) ⟨by decide, by decide⟩) (A_int hG (p1 := 3) (I_iconst hG dX6_isSetting_2 (by decide) ⟨by decide, by decide⟩) (A_nil hG)))) dX6_isSetting_3) dX6_isSetting_6
abbrev rm_X6_isValueOf : Room := { frames := 2, cells := 0, slots := 0, locals := 42 }
def B_X6_isValueOf : ST := sRet true (iQ (cAnd (cNe (iCallS m_X6_isSetting (aI (iL 0) (aN))) (iC 0)) (cNe (iCallS m_X6_isWithin (aI (iL 1) (aI (iT 0 (fun _ => 0) 1 (iL 0)) (aI (iT 0 (fun _ => 0) 2 (iL 0)) (aN))))) (iC 0))) (iC 1) (iC 0))
def m_X6_isValueOf : Mt := mk0 2 B_X6_isValueOf
set_option maxRecDepth 20000 in
theorem ok_X6_isValueOf : MOkI yX6_isValueOf cX6_isValueOf 2 .boolean rm_X6_isValueOf m_X6_isValueOf := by
  unfold m_X6_isValueOf
  refine MOkI_mk0 (pe := 30) (by decide +kernel) (by decide) (by decide) ⟨rfl, rfl⟩ (fun Rt G hG => ?_)
  have hG : Mach RX6 cX6_isValueOf 2 "isValueOf" rm_X6_isValueOf (some .boolean) 3 0 (fun _ => 0) Rt G := hG
  unfold B_X6_isValueOf
  exact S_retB hG (p1 := 29) rfl rfl (I_ternX hG (p1 := 24) (p3 := 28) (p4 := 29) (C_and hG (p1 := 7) (C_ne_F0 hG (p1 := 4) (tgt := 28) (I_callS hG (p2 := 1) ok_X6_isSetting ckX6_101 ⟨rfl, rfl⟩ ⟨by decide, by decide⟩ (by decide) (A_int hG (p1 := 1) (I_iload_n hG dX6_isValueOf_0 rfl (by decide)) (A_nil hG)) dX6_isValueOf_1) dX6_isValueOf_4 (by decide)) (C_ne_F0 hG (p1 := 21) (tgt := 28) (I_callS hG (p2 := 18) ok_X6_isWithin ckX6_54 ⟨rfl, rfl⟩ ⟨by decide, by decide⟩ (by decide) (A_int hG (p1 := 8) (I_iload_n hG dX6_isValueOf_7 rfl (by decide)) (A_int hG (p1 := 13) (I_tabS hG (by decide) (by decide) gsX6_238 dX6_isValueOf_8 (p2 := 12) (I_iload_n hG dX6_isValueOf_11 rfl (by decide)) dX6_isValueOf_12) (A_int hG (p1 := 18) (I_tabS hG (by decide) (by decide) gsX6_242 dX6_isValueOf_13 (p2 := 17) (I_iload_n hG dX6_isValueOf_16 rfl (by decide)) dX6_isValueOf_17) (A_nil hG)))) dX6_isValueOf_18) dX6_isValueOf_21 (by decide))) (I_goto hG (I_iconst hG dX6_isValueOf_24 (by decide) ⟨by decide, by decide⟩) dX6_isValueOf_25 (p2 := 29) (by decide)) (I_iconst hG dX6_isValueOf_28 (by decide) ⟨by decide, by decide⟩)) dX6_isValueOf_29
abbrev rm_X4_setting : Room := { frames := 0, cells := 0, slots := 0, locals := 0 }
def B_X4_setting : ST := sRet false (iQ (cAnd (cGe (iL 1) (iC 0)) (cLt (iL 1) (iC 5))) (iA (rF 4 1 (rL 0)) (iL 1)) (iC 0))
def m_X4_setting : Mt := mk0 2 B_X4_setting
set_option maxRecDepth 20000 in
theorem ok_X4_setting : MOkI yX4_setting cX4_setting 2 .int rm_X4_setting m_X4_setting := by
  unfold m_X4_setting
  refine MOkI_mk0 (pe := 20) (by decide +kernel) (by decide) (by decide) ⟨rfl, rfl⟩ (fun Rt G hG => ?_)
  have hG : Mach RX4 cX4_setting 2 "setting" rm_X4_setting (some .int) 3 0 (fun _ => 0) Rt G := hG
  unfold B_X4_setting
  exact S_ret hG (p1 := 19) rfl rfl (I_ternX hG (p1 := 9) (p3 := 18) (p4 := 19) (C_and hG (p1 := 4) (C_ge_F0 hG (p1 := 1) (tgt := 18) (I_iload_n hG dX4_setting_0 rfl (by decide)) dX4_setting_1 (by decide)) (C_lt_F hG (p1 := 5) (p2 := 6) (tgt := 18) (I_iload_n hG dX4_setting_4 rfl (by decide)) (I_iconst hG dX4_setting_5 (by decide) ⟨by decide, by decide⟩) dX4_setting_6 (by decide))) (I_goto hG (I_iald hG (p1 := 13) (p2 := 14) (R_getf hG foX4_18 (p1 := 10) (R_aload_n hG dX4_setting_9 rfl (by decide)) dX4_setting_10) (I_iload_n hG dX4_setting_13 rfl (by decide)) dX4_setting_14) dX4_setting_15 (p2 := 19) (by decide)) (I_iconst hG dX4_setting_18 (by decide) ⟨by decide, by decide⟩)) dX4_setting_19
end
section
abbrev rm_X4_change : Room := { frames := 0, cells := 0, slots := 0, locals := 0 }
def B_X4_change : ST := sSeq (sIf1 (cAnd (cGe (iL 1) (iC 0)) (cLt (iL 1) (iC 5))) (sAst (rF 4 1 (rL 0)) (iL 1) (iL 2))) sRetV
def m_X4_change : Mt := mk0 3 B_X4_change
set_option maxRecDepth 20000 in
theorem ok_X4_change : MOkV yX4_change cX4_change 3 rm_X4_change m_X4_change := by
  unfold m_X4_change
  refine MOkV_mk0 (pe := 17) (by decide +kernel) (by decide) (by decide) ⟨rfl, rfl⟩ (fun Rt G hG => ?_)
  have hG : Mach RX4 cX4_change 3 "change" rm_X4_change none 3 0 (fun _ => 0) Rt G := hG
  unfold B_X4_change
  exact S_seq hG (p1 := 16) (S_if1 hG (p1 := 9) (p2 := 16) (C_and hG (p1 := 4) (C_ge_F0 hG (p1 := 1) (tgt := 16) (I_iload_n hG dX4_change_0 rfl (by decide)) dX4_change_1 (by decide)) (C_lt_F hG (p1 := 5) (p2 := 6) (tgt := 16) (I_iload_n hG dX4_change_4 rfl (by decide)) (I_iconst hG dX4_change_5 (by decide) ⟨by decide, by decide⟩) dX4_change_6 (by decide))) (S_iast hG (p1 := 13) (p2 := 14) (p3 := 15) (R_getf hG foX4_18 (p1 := 10) (R_aload_n hG dX4_change_9 rfl (by decide)) dX4_change_10) (I_iload_n hG dX4_change_13 rfl (by decide)) (I_iload_n hG dX4_change_14 rfl (by decide)) dX4_change_15)) (S_retV hG rfl dX4_change_16)
abbrev rm_X6_set : Room := { frames := 4, cells := 0, slots := 0, locals := 81 }
def B_X6_set : ST := sSeq (sIf1 (cNot (cNe (iCallS m_X6_isSetting (aI (iL 1) (aN))) (iC 0))) (sRet false (iC (-1)))) (sSeq (sIf1 (cNot (cNe (iCallS m_X6_isValueOf (aI (iL 1) (aI (iL 2) (aN)))) (iC 0))) (sRet false (iC (-2)))) (sSeq (sLoc 3 (iCallV 4 m_X4_setting (rF 6 0 (rL 0)) (aI (iL 1) (aN)))) (sSeq (sIf1 (cEq (iL 3) (iL 2)) (sRet false (iC (-5)))) (sSeq (sCallV 0 m_X0_record (rF 6 4 (rL 0)) (aR (rF 6 0 (rL 0)) (aN))) (sSeq (sCallV 4 m_X4_change (rF 6 0 (rL 0)) (aI (iL 1) (aI (iL 2) (aN)))) (sRet false (iL 3)))))))
def m_X6_set : Mt := mk0 3 B_X6_set
set_option maxRecDepth 20000 in
theorem ok_X6_set : MOkI yX6_set cX6_set 4 .int rm_X6_set m_X6_set := by
  unfold m_X6_set
  refine MOkI_mk0 (pe := 59) (by decide +kernel) (by decide) (by decide) ⟨rfl, rfl⟩ (fun Rt G hG => ?_)
  have hG : Mach RX6 cX6_set 4 "set" rm_X6_set (some .int) 3 0 (fun _ => 0) Rt G := hG
  unfold B_X6_set
  exact S_seq hG (p1 := 9) (S_if1 hG (p1 := 7) (p2 := 9) (C_not hG (C_ne_T0 hG (p1 := 4) (tgt := 9) (I_callS hG (p2 := 1) ok_X6_isSetting ckX6_101 ⟨rfl, rfl⟩ ⟨by decide, by decide⟩ (by decide) (A_int hG (p1 := 1) (I_iload_n hG dX6_set_0 rfl (by decide)) (A_nil hG)) dX6_set_1) dX6_set_4 (by decide))) (S_ret hG (p1 := 8) rfl rfl (I_iconst hG dX6_set_7 (by decide) ⟨by decide, by decide⟩) dX6_set_8)) (S_seq hG (p1 := 20) (S_if1 hG (p1 := 17) (p2 := 20) (C_not hG (C_ne_T0 hG (p1 := 14) (tgt := 20) (I_callS hG (p2 := 11) ok_X6_isValueOf ckX6_105 ⟨rfl, rfl⟩ ⟨by decide, by decide⟩ (by decide) (A_int hG (p1 := 10) (I_iload_n hG dX6_set_9 rfl (by decide)) (A_int hG (p1 := 11) (I_iload_n hG dX6_set_10 rfl (by decide)) (A_nil hG))) dX6_set_11) dX6_set_14 (by decide))) (S_ret hG (p1 := 19) rfl rfl (I_bipush hG dX6_set_17 (by decide) ⟨by decide, by decide⟩) dX6_set_19)) (S_seq hG (p1 := 29) (S_istore_n hG (p1 := 28) (I_callV hG (p1 := 24) (p2 := 25) ok_X4_setting ckX6_108 ⟨rfl, rfl⟩ (by decide) rfl ⟨by decide, by decide⟩ (by decide) (R_getf hG foX6_10 (p1 := 21) (R_aload_n hG dX6_set_20 rfl (by decide)) dX6_set_21) (A_int hG (p1 := 25) (I_iload_n hG dX6_set_24 rfl (by decide)) (A_nil hG)) dX6_set_25) dX6_set_28 rfl (by decide)) (S_seq hG (p1 := 37) (S_if1 hG (p1 := 34) (p2 := 37) (C_eq_F hG (p1 := 30) (p2 := 31) (tgt := 37) (I_iload_n hG dX6_set_29 rfl (by decide)) (I_iload_n hG dX6_set_30 rfl (by decide)) dX6_set_31 (by decide)) (S_ret hG (p1 := 36) rfl rfl (I_bipush hG dX6_set_34 (by decide) ⟨by decide, by decide⟩) dX6_set_36)) (S_seq hG (p1 := 48) (S_callV hG (p1 := 41) (p2 := 45) ok_X0_record ckX6_68 ⟨rfl, rfl⟩ (by decide) rfl ⟨by decide, by decide⟩ (R_getf hG foX6_29 (p1 := 38) (R_aload_n hG dX6_set_37 rfl (by decide)) dX6_set_38) (A_ref hG (p1 := 45) (R_getf hG foX6_10 (p1 := 42) (R_aload_n hG dX6_set_41 rfl (by decide)) dX6_set_42) (A_nil hG)) dX6_set_45) (S_seq hG (p1 := 57) (S_callV hG (p1 := 52) (p2 := 54) ok_X4_change ckX6_112 ⟨rfl, rfl⟩ (by decide) rfl ⟨by decide, by decide⟩ (R_getf hG foX6_10 (p1 := 49) (R_aload_n hG dX6_set_48 rfl (by decide)) dX6_set_49) (A_int hG (p1 := 53) (I_iload_n hG dX6_set_52 rfl (by decide)) (A_int hG (p1 := 54) (I_iload_n hG dX6_set_53 rfl (by decide)) (A_nil hG))) dX6_set_54) (S_ret hG (p1 := 58) rfl rfl (I_iload_n hG dX6_set_57 rfl (by decide)) dX6_set_58))))))
abbrev rm_X6_areTicks : Room := { frames := 1, cells := 0, slots := 0, locals := 22 }
def B_X6_areTicks : ST := sRet true (iQ (cAnd (cAnd (cNe (iCallS m_X6_isWithin (aI (iL 0) (aI (iC 0) (aI (iC 599) (aN))))) (iC 0)) (cNe (iCallS m_X6_isWithin (aI (iL 1) (aI (iC 1) (aI (iL 2) (aN))))) (iC 0))) (cLe (iAdd (iL 0) (iL 1)) (iC 600))) (iC 1) (iC 0))
def m_X6_areTicks : Mt := mk0 3 B_X6_areTicks
set_option maxRecDepth 20000 in
theorem ok_X6_areTicks : MOkI yX6_areTicks cX6_areTicks 3 .boolean rm_X6_areTicks m_X6_areTicks := by
  unfold m_X6_areTicks
  refine MOkI_mk0 (pe := 35) (by decide +kernel) (by decide) (by decide) ⟨rfl, rfl⟩ (fun Rt G hG => ?_)
  have hG : Mach RX6 cX6_areTicks 3 "areTicks" rm_X6_areTicks (some .boolean) 3 0 (fun _ => 0) Rt G := hG
  unfold B_X6_areTicks
  exact S_retB hG (p1 := 34) rfl rfl (I_ternX hG (p1 := 29) (p3 := 33) (p4 := 34) (C_and hG (p1 := 20) (C_and hG (p1 := 11) (C_ne_F0 hG (p1 := 8) (tgt := 33) (I_callS hG (p2 := 5) ok_X6_isWithin ckX6_54 ⟨rfl, rfl⟩ ⟨by decide, by decide⟩ (by decide) (A_int hG (p1 := 1) (I_iload_n hG dX6_areTicks_0 rfl (by decide)) (A_int hG (p1 := 2) (I_iconst hG dX6_areTicks_1 (by decide) ⟨by decide, by decide⟩) (A_int hG (p1 := 5) (I_sipush hG dX6_areTicks_2 (by decide) ⟨by decide, by decide⟩) (A_nil hG)))) dX6_areTicks_5) dX6_areTicks_8 (by decide)) (C_ne_F0 hG (p1 := 17) (tgt := 33) (I_callS hG (p2 := 14) ok_X6_isWithin ckX6_54 ⟨rfl, rfl⟩ ⟨by decide, by decide⟩ (by decide) (A_int hG (p1 := 12) (I_iload_n hG dX6_areTicks_11 rfl (by decide)) (A_int hG (p1 := 13) (I_iconst hG dX6_areTicks_12 (by decide) ⟨by decide, by decide⟩) (A_int hG (p1 := 14) (I_iload_n hG dX6_areTicks_13 rfl (by decide)) (A_nil hG)))) dX6_areTicks_14) dX6_areTicks_17 (by decide))) (C_le_F hG (p1 := 23) (p2 := 26) (tgt := 33) (I_iadd hG (p1 := 21) (p2 := 22) (I_iload_n hG dX6_areTicks_20 rfl (by decide)) (I_iload_n hG dX6_areTicks_21 rfl (by decide)) dX6_areTicks_22) (I_sipush hG dX6_areTicks_23 (by decide) ⟨by decide, by decide⟩) dX6_areTicks_26 (by decide))) (I_goto hG (I_iconst hG dX6_areTicks_29 (by decide) ⟨by decide, by decide⟩) dX6_areTicks_30 (p2 := 34) (by decide)) (I_iconst hG dX6_areTicks_33 (by decide) ⟨by decide, by decide⟩)) dX6_areTicks_34
abbrev rm_X4_voiceAt : Room := { frames := 1, cells := 0, slots := 0, locals := 22 }
def B_X4_voiceAt : ST := sSeq (sIf1 (cAnd (cGe (iL 1) (iC 0)) (cLt (iL 1) (iC 600))) (sAst (rF 4 2 (rL 0)) (iL 1) (iQ (cNe (iCallS m_X6_isWithin (aI (iL 2) (aI (iC 0) (aI (iC 60) (aN))))) (iC 0)) (iL 2) (iC (-1))))) sRetV
def m_X4_voiceAt : Mt := mk0 3 B_X4_voiceAt
set_option maxRecDepth 20000 in
theorem ok_X4_voiceAt : MOkV yX4_voiceAt cX4_voiceAt 3 rm_X4_voiceAt m_X4_voiceAt := by
  unfold m_X4_voiceAt
  refine MOkV_mk0 (pe := 33) (by decide +kernel) (by decide) (by decide) ⟨rfl, rfl⟩ (fun Rt G hG => ?_)
  have hG : Mach RX4 cX4_voiceAt 3 "voiceAt" rm_X4_voiceAt none 3 0 (fun _ => 0) Rt G := hG
  unfold B_X4_voiceAt
  exact S_seq hG (p1 := 32) (S_if1 hG (p1 := 11) (p2 := 32) (C_and hG (p1 := 4) (C_ge_F0 hG (p1 := 1) (tgt := 32) (I_iload_n hG dX4_voiceAt_0 rfl (by decide)) dX4_voiceAt_1 (by decide)) (C_lt_F hG (p1 := 5) (p2 := 8) (tgt := 32) (I_iload_n hG dX4_voiceAt_4 rfl (by decide)) (I_sipush hG dX4_voiceAt_5 (by decide) ⟨by decide, by decide⟩) dX4_voiceAt_8 (by decide))) (S_iast hG (p1 := 15) (p2 := 16) (p3 := 31) (R_getf hG foX4_22 (p1 := 12) (R_aload_n hG dX4_voiceAt_11 rfl (by decide)) dX4_voiceAt_12) (I_iload_n hG dX4_voiceAt_15 rfl (by decide)) (I_ternX hG (p1 := 26) (p3 := 30) (p4 := 31) (C_ne_F0 hG (p1 := 23) (tgt := 30) (I_callN hG (p2 := 20) ok_X6_isWithin ckX4_38 ⟨rfl, rfl⟩ ⟨by decide, by decide⟩ (by decide) (A_int hG (p1 := 17) (I_iload_n hG dX4_voiceAt_16 rfl (by decide)) (A_int hG (p1 := 18) (I_iconst hG dX4_voiceAt_17 (by decide) ⟨by decide, by decide⟩) (A_int hG (p1 := 20) (I_bipush hG dX4_voiceAt_18 (by decide) ⟨by decide, by decide⟩) (A_nil hG)))) dX4_voiceAt_20) dX4_voiceAt_23 (by decide)) (I_goto hG (I_iload_n hG dX4_voiceAt_26 rfl (by decide)) dX4_voiceAt_27 (p2 := 31) (by decide)) (I_iconst hG dX4_voiceAt_30 (by decide) ⟨by decide, by decide⟩)) dX4_voiceAt_31)) (S_retV hG rfl dX4_voiceAt_32)
abbrev rm_X4_voice : Room := { frames := 2, cells := 0, slots := 0, locals := 44 }
def B_X4_voice : ST := sSeq (sSeq (sLoc 4 (iC 0)) (sWhile (cLt (iL 4) (iL 2)) (sSeq (sCallV 4 m_X4_voiceAt (rL 0) (aI (iAdd (iL 1) (iL 4)) (aI (iL 3) (aN)))) (sInc 4 1)))) sRetV
def m_X4_voice : Mt := mk0 4 B_X4_voice
set_option maxRecDepth 20000 in
theorem ok_X4_voice : MOkV yX4_voice cX4_voice 5 rm_X4_voice m_X4_voice := by
  unfold m_X4_voice
  refine MOkV_mk0 (pe := 25) (by decide +kernel) (by decide) (by decide) ⟨rfl, rfl⟩ (fun Rt G hG => ?_)
  have hG : Mach RX4 cX4_voice 5 "voice" rm_X4_voice none 3 0 (fun _ => 0) Rt G := hG
  unfold B_X4_voice
  exact S_seq hG (p1 := 24) (S_seq hG (p1 := 3) (S_istore hG (p1 := 1) (I_iconst hG dX4_voice_0 (by decide) ⟨by decide, by decide⟩) dX4_voice_1 (by decide)) (S_while hG (p1 := 9) (p2 := 24) (C_lt_F hG (p1 := 5) (p2 := 6) (tgt := 24) (I_iload hG dX4_voice_3 (by decide)) (I_iload_n hG dX4_voice_5 rfl (by decide)) dX4_voice_6 (by decide)) (S_seq hG (p1 := 18) (S_callV hG (p1 := 10) (p2 := 15) ok_X4_voiceAt ckX4_42 ⟨rfl, rfl⟩ (by decide) rfl ⟨by decide, by decide⟩ (R_aload_n hG dX4_voice_9 rfl (by decide)) (A_int hG (p1 := 14) (I_iadd hG (p1 := 11) (p2 := 13) (I_iload_n hG dX4_voice_10 rfl (by decide)) (I_iload hG dX4_voice_11 (by decide)) dX4_voice_13) (A_int hG (p1 := 15) (I_iload_n hG dX4_voice_14 rfl (by decide)) (A_nil hG))) dX4_voice_15) (S_goto hG (p2 := 3) (S_iinc hG dX4_voice_18 (by decide)) dX4_voice_21 (by decide))))) (S_retV hG rfl dX4_voice_24)
abbrev rm_X4_sungAt : Room := { frames := 0, cells := 0, slots := 0, locals := 0 }
def B_X4_sungAt : ST := sRet false (iQ (cAnd (cGe (iL 1) (iC 0)) (cLt (iL 1) (iC 600))) (iA (rF 4 2 (rL 0)) (iL 1)) (iC (-1)))
def m_X4_sungAt : Mt := mk0 2 B_X4_sungAt
set_option maxRecDepth 20000 in
theorem ok_X4_sungAt : MOkI yX4_sungAt cX4_sungAt 2 .int rm_X4_sungAt m_X4_sungAt := by
  unfold m_X4_sungAt
  refine MOkI_mk0 (pe := 22) (by decide +kernel) (by decide) (by decide) ⟨rfl, rfl⟩ (fun Rt G hG => ?_)
  have hG : Mach RX4 cX4_sungAt 2 "sungAt" rm_X4_sungAt (some .int) 3 0 (fun _ => 0) Rt G := hG
  unfold B_X4_sungAt
  exact S_ret hG (p1 := 21) rfl rfl (I_ternX hG (p1 := 11) (p3 := 20) (p4 := 21) (C_and hG (p1 := 4) (C_ge_F0 hG (p1 := 1) (tgt := 20) (I_iload_n hG dX4_sungAt_0 rfl (by decide)) dX4_sungAt_1 (by decide)) (C_lt_F hG (p1 := 5) (p2 := 8) (tgt := 20) (I_iload_n hG dX4_sungAt_4 rfl (by decide)) (I_sipush hG dX4_sungAt_5 (by decide) ⟨by decide, by decide⟩) dX4_sungAt_8 (by decide))) (I_goto hG (I_iald hG (p1 := 15) (p2 := 16) (R_getf hG foX4_22 (p1 := 12) (R_aload_n hG dX4_sungAt_11 rfl (by decide)) dX4_sungAt_12) (I_iload_n hG dX4_sungAt_15 rfl (by decide)) dX4_sungAt_16) dX4_sungAt_17 (p2 := 21) (by decide)) (I_iconst hG dX4_sungAt_20 (by decide) ⟨by decide, by decide⟩)) dX4_sungAt_21
abbrev rm_X3_pitchOf : Room := { frames := 1, cells := 0, slots := 0, locals := 21 }
def B_X3_pitchOf : ST := sRet false (iQ (cNe (iCallV 3 m_X3_has (rL 0) (aI (iL 1) (aN))) (iC 0)) (iA (rF 3 2 (rL 0)) (iL 1)) (iC 0))
def m_X3_pitchOf : Mt := mk0 2 B_X3_pitchOf
set_option maxRecDepth 20000 in
theorem ok_X3_pitchOf : MOkI yX3_pitchOf cX3_pitchOf 2 .int rm_X3_pitchOf m_X3_pitchOf := by
  unfold m_X3_pitchOf
  refine MOkI_mk0 (pe := 19) (by decide +kernel) (by decide) (by decide) ⟨rfl, rfl⟩ (fun Rt G hG => ?_)
  have hG : Mach RX3 cX3_pitchOf 2 "pitchOf" rm_X3_pitchOf (some .int) 3 0 (fun _ => 0) Rt G := hG
  unfold B_X3_pitchOf
  exact S_ret hG (p1 := 18) rfl rfl (I_ternX hG (p1 := 8) (p3 := 17) (p4 := 18) (C_ne_F0 hG (p1 := 5) (tgt := 17) (I_callV hG (p1 := 1) (p2 := 2) ok_X3_has ckX3_31 ⟨rfl, rfl⟩ (by decide) rfl ⟨by decide, by decide⟩ (by decide) (R_aload_n hG dX3_pitchOf_0 rfl (by decide)) (A_int hG (p1 := 2) (I_iload_n hG dX3_pitchOf_1 rfl (by decide)) (A_nil hG)) dX3_pitchOf_2) dX3_pitchOf_5 (by decide)) (I_goto hG (I_iald hG (p1 := 12) (p2 := 13) (R_getf hG foX3_18 (p1 := 9) (R_aload_n hG dX3_pitchOf_8 rfl (by decide)) dX3_pitchOf_9) (I_iload_n hG dX3_pitchOf_12 rfl (by decide)) dX3_pitchOf_13) dX3_pitchOf_14 (p2 := 18) (by decide)) (I_iconst hG dX3_pitchOf_17 (by decide) ⟨by decide, by decide⟩)) dX3_pitchOf_18
abbrev rm_X3_endPitchOf : Room := { frames := 1, cells := 0, slots := 0, locals := 21 }
def B_X3_endPitchOf : ST := sRet false (iQ (cNe (iCallV 3 m_X3_has (rL 0) (aI (iL 1) (aN))) (iC 0)) (iA (rF 3 3 (rL 0)) (iL 1)) (iC 0))
def m_X3_endPitchOf : Mt := mk0 2 B_X3_endPitchOf
set_option maxRecDepth 20000 in
theorem ok_X3_endPitchOf : MOkI yX3_endPitchOf cX3_endPitchOf 2 .int rm_X3_endPitchOf m_X3_endPitchOf := by
  unfold m_X3_endPitchOf
  refine MOkI_mk0 (pe := 19) (by decide +kernel) (by decide) (by decide) ⟨rfl, rfl⟩ (fun Rt G hG => ?_)
  have hG : Mach RX3 cX3_endPitchOf 2 "endPitchOf" rm_X3_endPitchOf (some .int) 3 0 (fun _ => 0) Rt G := hG
  unfold B_X3_endPitchOf
  exact S_ret hG (p1 := 18) rfl rfl (I_ternX hG (p1 := 8) (p3 := 17) (p4 := 18) (C_ne_F0 hG (p1 := 5) (tgt := 17) (I_callV hG (p1 := 1) (p2 := 2) ok_X3_has ckX3_31 ⟨rfl, rfl⟩ (by decide) rfl ⟨by decide, by decide⟩ (by decide) (R_aload_n hG dX3_endPitchOf_0 rfl (by decide)) (A_int hG (p1 := 2) (I_iload_n hG dX3_endPitchOf_1 rfl (by decide)) (A_nil hG)) dX3_endPitchOf_2) dX3_endPitchOf_5 (by decide)) (I_goto hG (I_iald hG (p1 := 12) (p2 := 13) (R_getf hG foX3_21 (p1 := 9) (R_aload_n hG dX3_endPitchOf_8 rfl (by decide)) dX3_endPitchOf_9) (I_iload_n hG dX3_endPitchOf_12 rfl (by decide)) dX3_endPitchOf_13) dX3_endPitchOf_14 (p2 := 18) (by decide)) (I_iconst hG dX3_endPitchOf_17 (by decide) ⟨by decide, by decide⟩)) dX3_endPitchOf_18
abbrev rm_X3_wantedOf : Room := { frames := 2, cells := 0, slots := 0, locals := 42 }
def B_X3_wantedOf : ST := sSeq (sLoc 3 (iSub (iCallV 3 m_X3_lengthOf (rL 0) (aI (iL 1) (aN))) (iC 1))) (sSeq (sLoc 4 (iCallV 3 m_X3_pitchOf (rL 0) (aI (iL 1) (aN)))) (sSeq (sIf1 (cLt (iL 3) (iC 1)) (sRet false (iL 4))) (sRet false (iAdd (iL 4) (iDiv (iMul (iSub (iCallV 3 m_X3_endPitchOf (rL 0) (aI (iL 1) (aN))) (iL 4)) (iL 2)) (iL 3))))))
def m_X3_wantedOf : Mt := mk0 3 B_X3_wantedOf
set_option maxRecDepth 20000 in
theorem ok_X3_wantedOf : MOkI yX3_wantedOf cX3_wantedOf 5 .int rm_X3_wantedOf m_X3_wantedOf := by
  unfold m_X3_wantedOf
  refine MOkI_mk0 (pe := 39) (by decide +kernel) (by decide) (by decide) ⟨rfl, rfl⟩ (fun Rt G hG => ?_)
  have hG : Mach RX3 cX3_wantedOf 5 "wantedOf" rm_X3_wantedOf (some .int) 3 0 (fun _ => 0) Rt G := hG
  unfold B_X3_wantedOf
  exact S_seq hG (p1 := 8) (S_istore_n hG (p1 := 7) (I_isub hG (p1 := 5) (p2 := 6) (I_callV hG (p1 := 1) (p2 := 2) ok_X3_lengthOf ckX3_39 ⟨rfl, rfl⟩ (by decide) rfl ⟨by decide, by decide⟩ (by decide) (R_aload_n hG dX3_wantedOf_0 rfl (by decide)) (A_int hG (p1 := 2) (I_iload_n hG dX3_wantedOf_1 rfl (by decide)) (A_nil hG)) dX3_wantedOf_2) (I_iconst hG dX3_wantedOf_5 (by decide) ⟨by decide, by decide⟩) dX3_wantedOf_6) dX3_wantedOf_7 rfl (by decide)) (S_seq hG (p1 := 15) (S_istore hG (p1 := 13) (I_callV hG (p1 := 9) (p2 := 10) ok_X3_pitchOf ckX3_45 ⟨rfl, rfl⟩ (by decide) rfl ⟨by decide, by decide⟩ (by decide) (R_aload_n hG dX3_wantedOf_8 rfl (by decide)) (A_int hG (p1 := 10) (I_iload_n hG dX3_wantedOf_9 rfl (by decide)) (A_nil hG)) dX3_wantedOf_10) dX3_wantedOf_13 (by decide)) (S_seq hG (p1 := 23) (S_if1 hG (p1 := 20) (p2 := 23) (C_lt_F hG (p1 := 16) (p2 := 17) (tgt := 23) (I_iload_n hG dX3_wantedOf_15 rfl (by decide)) (I_iconst hG dX3_wantedOf_16 (by decide) ⟨by decide, by decide⟩) dX3_wantedOf_17 (by decide)) (S_ret hG (p1 := 22) rfl rfl (I_iload hG dX3_wantedOf_20 (by decide)) dX3_wantedOf_22)) (S_ret hG (p1 := 38) rfl rfl (I_iadd hG (p1 := 25) (p2 := 37) (I_iload hG dX3_wantedOf_23 (by decide)) (I_idiv hG (p1 := 35) (p2 := 36) (I_imul hG (p1 := 33) (p2 := 34) (I_isub hG (p1 := 30) (p2 := 32) (I_callV hG (p1 := 26) (p2 := 27) ok_X3_endPitchOf ckX3_48 ⟨rfl, rfl⟩ (by decide) rfl ⟨by decide, by decide⟩ (by decide) (R_aload_n hG dX3_wantedOf_25 rfl (by decide)) (A_int hG (p1 := 27) (I_iload_n hG dX3_wantedOf_26 rfl (by decide)) (A_nil hG)) dX3_wantedOf_27) (I_iload hG dX3_wantedOf_30 (by decide)) dX3_wantedOf_32) (I_iload_n hG dX3_wantedOf_33 rfl (by decide)) dX3_wantedOf_34) (I_iload_n hG dX3_wantedOf_35 rfl (by decide)) dX3_wantedOf_36) dX3_wantedOf_37) dX3_wantedOf_38)))
abbrev rm_X4_isMatch : Room := { frames := 1, cells := 0, slots := 0, locals := 21 }
def B_X4_isMatch : ST := sSeq (sIf1 (cEq (iL 1) (iC (-1))) (sRet true (iC 0))) (sSeq (sLoc 3 (iAbs (iSub (iL 1) (iL 2)))) (sSeq (sIf1 (cEq (iCallV 4 m_X4_setting (rL 0) (aI (iC 3) (aN))) (iC 1)) (sSeq (sLoc 4 (iRem (iL 3) (iC 12))) (sLoc 3 (iMin (iL 4) (iSub (iC 12) (iL 4)))))) (sRet true (iQ (cLe (iL 3) (iCallV 4 m_X4_setting (rL 0) (aI (iC 1) (aN)))) (iC 1) (iC 0)))))
def m_X4_isMatch : Mt := mk0 3 B_X4_isMatch
set_option maxRecDepth 20000 in
theorem ok_X4_isMatch : MOkI yX4_isMatch cX4_isMatch 5 .boolean rm_X4_isMatch m_X4_isMatch := by
  unfold m_X4_isMatch
  refine MOkI_mk0 (pe := 55) (by decide +kernel) (by decide) (by decide) ⟨rfl, rfl⟩ (fun Rt G hG => ?_)
  have hG : Mach RX4 cX4_isMatch 5 "isMatch" rm_X4_isMatch (some .boolean) 3 0 (fun _ => 0) Rt G := hG
  unfold B_X4_isMatch
  exact S_seq hG (p1 := 7) (S_if1 hG (p1 := 5) (p2 := 7) (C_eq_F hG (p1 := 1) (p2 := 2) (tgt := 7) (I_iload_n hG dX4_isMatch_0 rfl (by decide)) (I_iconst hG dX4_isMatch_1 (by decide) ⟨by decide, by decide⟩) dX4_isMatch_2 (by decide)) (S_retB hG (p1 := 6) rfl rfl (I_iconst hG dX4_isMatch_5 (by decide) ⟨by decide, by decide⟩) dX4_isMatch_6)) (S_seq hG (p1 := 14) (S_istore_n hG (p1 := 13) (I_mabs hG (p1 := 10) (I_isub hG (p1 := 8) (p2 := 9) (I_iload_n hG dX4_isMatch_7 rfl (by decide)) (I_iload_n hG dX4_isMatch_8 rfl (by decide)) dX4_isMatch_9) maX4_67 ⟨by decide, by decide⟩ dX4_isMatch_10) dX4_isMatch_13 rfl (by decide)) (S_seq hG (p1 := 40) (S_if1 hG (p1 := 23) (p2 := 40) (C_eq_F hG (p1 := 19) (p2 := 20) (tgt := 40) (I_callV hG (p1 := 15) (p2 := 16) ok_X4_setting ckX4_64 ⟨rfl, rfl⟩ (by decide) rfl ⟨by decide, by decide⟩ (by decide) (R_aload_n hG dX4_isMatch_14 rfl (by decide)) (A_int hG (p1 := 16) (I_iconst hG dX4_isMatch_15 (by decide) ⟨by decide, by decide⟩) (A_nil hG)) dX4_isMatch_16) (I_iconst hG dX4_isMatch_19 (by decide) ⟨by decide, by decide⟩) dX4_isMatch_20 (by decide)) (S_seq hG (p1 := 29) (S_istore hG (p1 := 27) (I_irem hG (p1 := 24) (p2 := 26) (I_iload_n hG dX4_isMatch_23 rfl (by decide)) (I_bipush hG dX4_isMatch_24 (by decide) ⟨by decide, by decide⟩) dX4_isMatch_26) dX4_isMatch_27 (by decide)) (S_istore_n hG (p1 := 39) (I_mmin hG (p1 := 31) (p2 := 36) (I_iload hG dX4_isMatch_29 (by decide)) (I_isub hG (p1 := 33) (p2 := 35) (I_bipush hG dX4_isMatch_31 (by decide) ⟨by decide, by decide⟩) (I_iload hG dX4_isMatch_33 (by decide)) dX4_isMatch_35) maX4_72 ⟨by decide, by decide⟩ dX4_isMatch_36) dX4_isMatch_39 rfl (by decide)))) (S_retB hG (p1 := 54) rfl rfl (I_ternX hG (p1 := 49) (p3 := 53) (p4 := 54) (C_le_F hG (p1 := 41) (p2 := 46) (tgt := 53) (I_iload_n hG dX4_isMatch_40 rfl (by decide)) (I_callV hG (p1 := 42) (p2 := 43) ok_X4_setting ckX4_64 ⟨rfl, rfl⟩ (by decide) rfl ⟨by decide, by decide⟩ (by decide) (R_aload_n hG dX4_isMatch_41 rfl (by decide)) (A_int hG (p1 := 43) (I_iconst hG dX4_isMatch_42 (by decide) ⟨by decide, by decide⟩) (A_nil hG)) dX4_isMatch_43) dX4_isMatch_46 (by decide)) (I_goto hG (I_iconst hG dX4_isMatch_49 (by decide) ⟨by decide, by decide⟩) dX4_isMatch_50 (p2 := 54) (by decide)) (I_iconst hG dX4_isMatch_53 (by decide) ⟨by decide, by decide⟩)) dX4_isMatch_54)))
abbrev rm_X1_isBarLine : Room := { frames := 0, cells := 0, slots := 0, locals := 0 }
def B_X1_isBarLine : ST := sRet true (iQ (cAnd (cAnd (cGt (iL 1) (iC 0)) (cGt (iL 0) (iC 0))) (cEq (iRem (iL 0) (iL 1)) (iC 0))) (iC 1) (iC 0))
def m_X1_isBarLine : Mt := mk0 2 B_X1_isBarLine
set_option maxRecDepth 20000 in
theorem ok_X1_isBarLine : MOkI yX1_isBarLine cX1_isBarLine 2 .boolean rm_X1_isBarLine m_X1_isBarLine := by
  unfold m_X1_isBarLine
  refine MOkI_mk0 (pe := 20) (by decide +kernel) (by decide) (by decide) ⟨rfl, rfl⟩ (fun Rt G hG => ?_)
  have hG : Mach RX1 cX1_isBarLine 2 "isBarLine" rm_X1_isBarLine (some .boolean) 3 0 (fun _ => 0) Rt G := hG
  unfold B_X1_isBarLine
  exact S_retB hG (p1 := 19) rfl rfl (I_ternX hG (p1 := 14) (p3 := 18) (p4 := 19) (C_and hG (p1 := 8) (C_and hG (p1 := 4) (C_gt_F0 hG (p1 := 1) (tgt := 18) (I_iload_n hG dX1_isBarLine_0 rfl (by decide)) dX1_isBarLine_1 (by decide)) (C_gt_F0 hG (p1 := 5) (tgt := 18) (I_iload_n hG dX1_isBarLine_4 rfl (by decide)) dX1_isBarLine_5 (by decide))) (C_eq_F0 hG (p1 := 11) (tgt := 18) (I_irem hG (p1 := 9) (p2 := 10) (I_iload_n hG dX1_isBarLine_8 rfl (by decide)) (I_iload_n hG dX1_isBarLine_9 rfl (by decide)) dX1_isBarLine_10) dX1_isBarLine_11 (by decide))) (I_goto hG (I_iconst hG dX1_isBarLine_14 (by decide) ⟨by decide, by decide⟩) dX1_isBarLine_15 (p2 := 19) (by decide)) (I_iconst hG dX1_isBarLine_18 (by decide) ⟨by decide, by decide⟩)) dX1_isBarLine_19
abbrev rm_X4_isOnset : Room := { frames := 1, cells := 0, slots := 0, locals := 21 }
def B_X4_isOnset : ST := sRet true (iQ (cAnd (cNe (iCallV 4 m_X4_sungAt (rL 0) (aI (iL 1) (aN))) (iC (-1))) (cNe (iCallV 4 m_X4_sungAt (rL 0) (aI (iL 1) (aN))) (iCallV 4 m_X4_sungAt (rL 0) (aI (iSub (iL 1) (iC 1)) (aN))))) (iC 1) (iC 0))
def m_X4_isOnset : Mt := mk0 2 B_X4_isOnset
set_option maxRecDepth 20000 in
theorem ok_X4_isOnset : MOkI yX4_isOnset cX4_isOnset 2 .boolean rm_X4_isOnset m_X4_isOnset := by
  unfold m_X4_isOnset
  refine MOkI_mk0 (pe := 30) (by decide +kernel) (by decide) (by decide) ⟨rfl, rfl⟩ (fun Rt G hG => ?_)
  have hG : Mach RX4 cX4_isOnset 2 "isOnset" rm_X4_isOnset (some .boolean) 3 0 (fun _ => 0) Rt G := hG
  unfold B_X4_isOnset
  exact S_retB hG (p1 := 29) rfl rfl (I_ternX hG (p1 := 24) (p3 := 28) (p4 := 29) (C_and hG (p1 := 9) (C_ne_F hG (p1 := 5) (p2 := 6) (tgt := 28) (I_callV hG (p1 := 1) (p2 := 2) ok_X4_sungAt ckX4_57 ⟨rfl, rfl⟩ (by decide) rfl ⟨by decide, by decide⟩ (by decide) (R_aload_n hG dX4_isOnset_0 rfl (by decide)) (A_int hG (p1 := 2) (I_iload_n hG dX4_isOnset_1 rfl (by decide)) (A_nil hG)) dX4_isOnset_2) (I_iconst hG dX4_isOnset_5 (by decide) ⟨by decide, by decide⟩) dX4_isOnset_6 (by decide)) (C_ne_F hG (p1 := 14) (p2 := 21) (tgt := 28) (I_callV hG (p1 := 10) (p2 := 11) ok_X4_sungAt ckX4_57 ⟨rfl, rfl⟩ (by decide) rfl ⟨by decide, by decide⟩ (by decide) (R_aload_n hG dX4_isOnset_9 rfl (by decide)) (A_int hG (p1 := 11) (I_iload_n hG dX4_isOnset_10 rfl (by decide)) (A_nil hG)) dX4_isOnset_11) (I_callV hG (p1 := 15) (p2 := 18) ok_X4_sungAt ckX4_57 ⟨rfl, rfl⟩ (by decide) rfl ⟨by decide, by decide⟩ (by decide) (R_aload_n hG dX4_isOnset_14 rfl (by decide)) (A_int hG (p1 := 18) (I_isub hG (p1 := 16) (p2 := 17) (I_iload_n hG dX4_isOnset_15 rfl (by decide)) (I_iconst hG dX4_isOnset_16 (by decide) ⟨by decide, by decide⟩) dX4_isOnset_17) (A_nil hG)) dX4_isOnset_18) dX4_isOnset_21 (by decide))) (I_goto hG (I_iconst hG dX4_isOnset_24 (by decide) ⟨by decide, by decide⟩) dX4_isOnset_25 (p2 := 29) (by decide)) (I_iconst hG dX4_isOnset_28 (by decide) ⟨by decide, by decide⟩)) dX4_isOnset_29
abbrev rm_X4_onsetNear : Room := { frames := 2, cells := 0, slots := 0, locals := 42 }
def B_X4_onsetNear : ST := sSeq (sLoc 2 (iCallV 4 m_X4_setting (rL 0) (aI (iC 2) (aN)))) (sSeq (sSeq (sLoc 3 (iC 0)) (sWhile (cLe (iL 3) (iL 2)) (sSeq (sSeq (sIf1 (cNe (iCallV 4 m_X4_isOnset (rL 0) (aI (iSub (iL 1) (iL 3)) (aN))) (iC 0)) (sRet false (iSub (iL 1) (iL 3)))) (sIf1 (cNe (iCallV 4 m_X4_isOnset (rL 0) (aI (iAdd (iL 1) (iL 3)) (aN))) (iC 0)) (sRet false (iAdd (iL 1) (iL 3))))) (sInc 3 1)))) (sRet false (iC (-5))))
def m_X4_onsetNear : Mt := mk0 2 B_X4_onsetNear
set_option maxRecDepth 20000 in
theorem ok_X4_onsetNear : MOkI yX4_onsetNear cX4_onsetNear 4 .int rm_X4_onsetNear m_X4_onsetNear := by
  unfold m_X4_onsetNear
  refine MOkI_mk0 (pe := 50) (by decide +kernel) (by decide) (by decide) ⟨rfl, rfl⟩ (fun Rt G hG => ?_)
  have hG : Mach RX4 cX4_onsetNear 4 "onsetNear" rm_X4_onsetNear (some .int) 3 0 (fun _ => 0) Rt G := hG
  unfold B_X4_onsetNear
  exact S_seq hG (p1 := 6) (S_istore_n hG (p1 := 5) (I_callV hG (p1 := 1) (p2 := 2) ok_X4_setting ckX4_64 ⟨rfl, rfl⟩ (by decide) rfl ⟨by decide, by decide⟩ (by decide) (R_aload_n hG dX4_onsetNear_0 rfl (by decide)) (A_int hG (p1 := 2) (I_iconst hG dX4_onsetNear_1 (by decide) ⟨by decide, by decide⟩) (A_nil hG)) dX4_onsetNear_2) dX4_onsetNear_5 rfl (by decide)) (S_seq hG (p1 := 47) (S_seq hG (p1 := 8) (S_istore_n hG (p1 := 7) (I_iconst hG dX4_onsetNear_6 (by decide) ⟨by decide, by decide⟩) dX4_onsetNear_7 rfl (by decide)) (S_while hG (p1 := 13) (p2 := 47) (C_le_F hG (p1 := 9) (p2 := 10) (tgt := 47) (I_iload_n hG dX4_onsetNear_8 rfl (by decide)) (I_iload_n hG dX4_onsetNear_9 rfl (by decide)) dX4_onsetNear_10 (by decide)) (S_seq hG (p1 := 41) (S_seq hG (p1 := 27) (S_if1 hG (p1 := 23) (p2 := 27) (C_ne_F0 hG (p1 := 20) (tgt := 27) (I_callV hG (p1 := 14) (p2 := 17) ok_X4_isOnset ckX4_60 ⟨rfl, rfl⟩ (by decide) rfl ⟨by decide, by decide⟩ (by decide) (R_aload_n hG dX4_onsetNear_13 rfl (by decide)) (A_int hG (p1 := 17) (I_isub hG (p1 := 15) (p2 := 16) (I_iload_n hG dX4_onsetNear_14 rfl (by decide)) (I_iload_n hG dX4_onsetNear_15 rfl (by decide)) dX4_onsetNear_16) (A_nil hG)) dX4_onsetNear_17) dX4_onsetNear_20 (by decide)) (S_ret hG (p1 := 26) rfl rfl (I_isub hG (p1 := 24) (p2 := 25) (I_iload_n hG dX4_onsetNear_23 rfl (by decide)) (I_iload_n hG dX4_onsetNear_24 rfl (by decide)) dX4_onsetNear_25) dX4_onsetNear_26)) (S_if1 hG (p1 := 37) (p2 := 41) (C_ne_F0 hG (p1 := 34) (tgt := 41) (I_callV hG (p1 := 28) (p2 := 31) ok_X4_isOnset ckX4_60 ⟨rfl, rfl⟩ (by decide) rfl ⟨by decide, by decide⟩ (by decide) (R_aload_n hG dX4_onsetNear_27 rfl (by decide)) (A_int hG (p1 := 31) (I_iadd hG (p1 := 29) (p2 := 30) (I_iload_n hG dX4_onsetNear_28 rfl (by decide)) (I_iload_n hG dX4_onsetNear_29 rfl (by decide)) dX4_onsetNear_30) (A_nil hG)) dX4_onsetNear_31) dX4_onsetNear_34 (by decide)) (S_ret hG (p1 := 40) rfl rfl (I_iadd hG (p1 := 38) (p2 := 39) (I_iload_n hG dX4_onsetNear_37 rfl (by decide)) (I_iload_n hG dX4_onsetNear_38 rfl (by decide)) dX4_onsetNear_39) dX4_onsetNear_40))) (S_goto hG (p2 := 8) (S_iinc hG dX4_onsetNear_41 (by decide)) dX4_onsetNear_44 (by decide))))) (S_ret hG (p1 := 49) rfl rfl (I_bipush hG dX4_onsetNear_47 (by decide) ⟨by decide, by decide⟩) dX4_onsetNear_49))
abbrev rm_X1_valueIn : Room := { frames := 0, cells := 0, slots := 0, locals := 0 }
def B_X1_valueIn : ST := sRet false (iQ (cAnd (cGe (iL 1) (iC 0)) (cLt (iL 1) (iLen (rL 0)))) (iA (rL 0) (iL 1)) (iC 0))
def m_X1_valueIn : Mt := mk0 2 B_X1_valueIn
set_option maxRecDepth 20000 in
theorem ok_X1_valueIn : MOkI yX1_valueIn cX1_valueIn 2 .int rm_X1_valueIn m_X1_valueIn := by
  unfold m_X1_valueIn
  refine MOkI_mk0 (pe := 18) (by decide +kernel) (by decide) (by decide) ⟨rfl, rfl⟩ (fun Rt G hG => ?_)
  have hG : Mach RX1 cX1_valueIn 2 "valueIn" rm_X1_valueIn (some .int) 3 0 (fun _ => 0) Rt G := hG
  unfold B_X1_valueIn
  exact S_ret hG (p1 := 17) rfl rfl (I_ternX hG (p1 := 10) (p3 := 16) (p4 := 17) (C_and hG (p1 := 4) (C_ge_F0 hG (p1 := 1) (tgt := 16) (I_iload_n hG dX1_valueIn_0 rfl (by decide)) dX1_valueIn_1 (by decide)) (C_lt_F hG (p1 := 5) (p2 := 7) (tgt := 16) (I_iload_n hG dX1_valueIn_4 rfl (by decide)) (I_alen hG (p1 := 6) (R_aload_n hG dX1_valueIn_5 rfl (by decide)) dX1_valueIn_6) dX1_valueIn_7 (by decide))) (I_goto hG (I_iald hG (p1 := 11) (p2 := 12) (R_aload_n hG dX1_valueIn_10 rfl (by decide)) (I_iload_n hG dX1_valueIn_11 rfl (by decide)) dX1_valueIn_12) dX1_valueIn_13 (p2 := 17) (by decide)) (I_iconst hG dX1_valueIn_16 (by decide) ⟨by decide, by decide⟩)) dX1_valueIn_17
abbrev rm_X1_matchesOf : Room := { frames := 1, cells := 0, slots := 0, locals := 21 }
def B_X1_matchesOf : ST := sRet false (iCallS m_X1_valueIn (aR (rF 1 0 (rL 0)) (aI (iL 1) (aN))))
def m_X1_matchesOf : Mt := mk0 2 B_X1_matchesOf
set_option maxRecDepth 20000 in
theorem ok_X1_matchesOf : MOkI yX1_matchesOf cX1_matchesOf 2 .int rm_X1_matchesOf m_X1_matchesOf := by
  unfold m_X1_matchesOf
  refine MOkI_mk0 (pe := 9) (by decide +kernel) (by decide) (by decide) ⟨rfl, rfl⟩ (fun Rt G hG => ?_)
  have hG : Mach RX1 cX1_matchesOf 2 "matchesOf" rm_X1_matchesOf (some .int) 3 0 (fun _ => 0) Rt G := hG
  unfold B_X1_matchesOf
  exact S_ret hG (p1 := 8) rfl rfl (I_callS hG (p2 := 5) ok_X1_valueIn ckX1_151 ⟨rfl, rfl⟩ ⟨by decide, by decide⟩ (by decide) (A_ref hG (p1 := 4) (R_getf hG foX1_9 (p1 := 1) (R_aload_n hG dX1_matchesOf_0 rfl (by decide)) dX1_matchesOf_1) (A_int hG (p1 := 5) (I_iload_n hG dX1_matchesOf_4 rfl (by decide)) (A_nil hG))) dX1_matchesOf_5) dX1_matchesOf_8
abbrev rm_X1_onsetOf : Room := { frames := 1, cells := 0, slots := 0, locals := 21 }
def B_X1_onsetOf : ST := sRet false (iCallS m_X1_valueIn (aR (rF 1 3 (rL 0)) (aI (iL 1) (aN))))
def m_X1_onsetOf : Mt := mk0 2 B_X1_onsetOf
set_option maxRecDepth 20000 in
theorem ok_X1_onsetOf : MOkI yX1_onsetOf cX1_onsetOf 2 .int rm_X1_onsetOf m_X1_onsetOf := by
  unfold m_X1_onsetOf
  refine MOkI_mk0 (pe := 9) (by decide +kernel) (by decide) (by decide) ⟨rfl, rfl⟩ (fun Rt G hG => ?_)
  have hG : Mach RX1 cX1_onsetOf 2 "onsetOf" rm_X1_onsetOf (some .int) 3 0 (fun _ => 0) Rt G := hG
  unfold B_X1_onsetOf
  exact S_ret hG (p1 := 8) rfl rfl (I_callS hG (p2 := 5) ok_X1_valueIn ckX1_151 ⟨rfl, rfl⟩ ⟨by decide, by decide⟩ (by decide) (A_ref hG (p1 := 4) (R_getf hG foX1_21 (p1 := 1) (R_aload_n hG dX1_onsetOf_0 rfl (by decide)) dX1_onsetOf_1) (A_int hG (p1 := 5) (I_iload_n hG dX1_onsetOf_4 rfl (by decide)) (A_nil hG))) dX1_onsetOf_5) dX1_onsetOf_8
abbrev rm_X1_shareOf : Room := { frames := 1, cells := 0, slots := 0, locals := 21 }
def B_X1_shareOf : ST := sRet false (iCallS m_X1_valueIn (aR (rF 1 1 (rL 0)) (aI (iL 1) (aN))))
def m_X1_shareOf : Mt := mk0 2 B_X1_shareOf
set_option maxRecDepth 20000 in
theorem ok_X1_shareOf : MOkI yX1_shareOf cX1_shareOf 2 .int rm_X1_shareOf m_X1_shareOf := by
  unfold m_X1_shareOf
  refine MOkI_mk0 (pe := 9) (by decide +kernel) (by decide) (by decide) ⟨rfl, rfl⟩ (fun Rt G hG => ?_)
  have hG : Mach RX1 cX1_shareOf 2 "shareOf" rm_X1_shareOf (some .int) 3 0 (fun _ => 0) Rt G := hG
  unfold B_X1_shareOf
  exact S_ret hG (p1 := 8) rfl rfl (I_callS hG (p2 := 5) ok_X1_valueIn ckX1_151 ⟨rfl, rfl⟩ ⟨by decide, by decide⟩ (by decide) (A_ref hG (p1 := 4) (R_getf hG foX1_15 (p1 := 1) (R_aload_n hG dX1_shareOf_0 rfl (by decide)) dX1_shareOf_1) (A_int hG (p1 := 5) (I_iload_n hG dX1_shareOf_4 rfl (by decide)) (A_nil hG))) dX1_shareOf_5) dX1_shareOf_8
abbrev rm_X1_reasonFor : Room := { frames := 2, cells := 0, slots := 0, locals := 42 }
def B_X1_reasonFor : ST := sSeq (sIf1 (cEq (iL 2) (iC 0)) (sRet false (iC 1))) (sSeq (sIf1 (cEq (iCallV 1 m_X1_matchesOf (rL 0) (aI (iL 1) (aN))) (iC 0)) (sRet false (iC 2))) (sSeq (sIf1 (cEq (iCallV 1 m_X1_onsetOf (rL 0) (aI (iL 1) (aN))) (iC (-5))) (sRet false (iC 3))) (sRet false (iQ (cLt (iCallV 1 m_X1_shareOf (rL 0) (aI (iL 1) (aN))) (iL 3)) (iC 4) (iC 0)))))
def m_X1_reasonFor : Mt := mk0 4 B_X1_reasonFor
set_option maxRecDepth 20000 in
theorem ok_X1_reasonFor : MOkI yX1_reasonFor cX1_reasonFor 4 .int rm_X1_reasonFor m_X1_reasonFor := by
  unfold m_X1_reasonFor
  refine MOkI_mk0 (pe := 43) (by decide +kernel) (by decide) (by decide) ⟨rfl, rfl⟩ (fun Rt G hG => ?_)
  have hG : Mach RX1 cX1_reasonFor 4 "reasonFor" rm_X1_reasonFor (some .int) 3 0 (fun _ => 0) Rt G := hG
  unfold B_X1_reasonFor
  exact S_seq hG (p1 := 6) (S_if1 hG (p1 := 4) (p2 := 6) (C_eq_F0 hG (p1 := 1) (tgt := 6) (I_iload_n hG dX1_reasonFor_0 rfl (by decide)) dX1_reasonFor_1 (by decide)) (S_ret hG (p1 := 5) rfl rfl (I_iconst hG dX1_reasonFor_4 (by decide) ⟨by decide, by decide⟩) dX1_reasonFor_5)) (S_seq hG (p1 := 16) (S_if1 hG (p1 := 14) (p2 := 16) (C_eq_F0 hG (p1 := 11) (tgt := 16) (I_callV hG (p1 := 7) (p2 := 8) ok_X1_matchesOf ckX1_107 ⟨rfl, rfl⟩ (by decide) rfl ⟨by decide, by decide⟩ (by decide) (R_aload_n hG dX1_reasonFor_6 rfl (by decide)) (A_int hG (p1 := 8) (I_iload_n hG dX1_reasonFor_7 rfl (by decide)) (A_nil hG)) dX1_reasonFor_8) dX1_reasonFor_11 (by decide)) (S_ret hG (p1 := 15) rfl rfl (I_iconst hG dX1_reasonFor_14 (by decide) ⟨by decide, by decide⟩) dX1_reasonFor_15)) (S_seq hG (p1 := 28) (S_if1 hG (p1 := 26) (p2 := 28) (C_eq_F hG (p1 := 21) (p2 := 23) (tgt := 28) (I_callV hG (p1 := 17) (p2 := 18) ok_X1_onsetOf ckX1_110 ⟨rfl, rfl⟩ (by decide) rfl ⟨by decide, by decide⟩ (by decide) (R_aload_n hG dX1_reasonFor_16 rfl (by decide)) (A_int hG (p1 := 18) (I_iload_n hG dX1_reasonFor_17 rfl (by decide)) (A_nil hG)) dX1_reasonFor_18) (I_bipush hG dX1_reasonFor_21 (by decide) ⟨by decide, by decide⟩) dX1_reasonFor_23 (by decide)) (S_ret hG (p1 := 27) rfl rfl (I_iconst hG dX1_reasonFor_26 (by decide) ⟨by decide, by decide⟩) dX1_reasonFor_27)) (S_ret hG (p1 := 42) rfl rfl (I_ternX hG (p1 := 37) (p3 := 41) (p4 := 42) (C_lt_F hG (p1 := 33) (p2 := 34) (tgt := 41) (I_callV hG (p1 := 29) (p2 := 30) ok_X1_shareOf ckX1_113 ⟨rfl, rfl⟩ (by decide) rfl ⟨by decide, by decide⟩ (by decide) (R_aload_n hG dX1_reasonFor_28 rfl (by decide)) (A_int hG (p1 := 30) (I_iload_n hG dX1_reasonFor_29 rfl (by decide)) (A_nil hG)) dX1_reasonFor_30) (I_iload_n hG dX1_reasonFor_33 rfl (by decide)) dX1_reasonFor_34 (by decide)) (I_goto hG (I_iconst hG dX1_reasonFor_37 (by decide) ⟨by decide, by decide⟩) dX1_reasonFor_38 (p2 := 42) (by decide)) (I_iconst hG dX1_reasonFor_41 (by decide) ⟨by decide, by decide⟩)) dX1_reasonFor_42)))
abbrev rm_X1_hear : Room := { frames := 3, cells := 0, slots := 0, locals := 66 }
def B_X1_hear : ST := sSeq (sSeq (sIf1 (cNot (cNe (iCallS m_X6_isWithin (aI (iL 2) (aI (iC 0) (aI (iC 39) (aN))))) (iC 0))) (sRetV)) (sSeq (sLocR 3 (rF 4 0 (rL 1))) (sSeq (sLoc 4 (iCallV 3 m_X3_lengthOf (rL 3) (aI (iL 2) (aN)))) (sSeq (sLoc 5 (iCallV 3 m_X3_beginningOf (rL 3) (aI (iL 2) (aN)))) (sSeq (sLoc 6 (iCallV 4 m_X4_setting (rL 1) (aI (iC 0) (aN)))) (sSeq (sLoc 7 (iC 0)) (sSeq (sLoc 8 (iC 0)) (sSeq (sLoc 9 (iC 0)) (sSeq (sLoc 10 (iC 0)) (sSeq (sSeq (sLoc 11 (iC 0)) (sWhile (cLt (iL 11) (iL 4)) (sSeq (sSeq (sLoc 12 (iCallV 4 m_X4_sungAt (rL 1) (aI (iAdd (iL 5) (iL 11)) (aN)))) (sSeq (sLoc 13 (iCallV 4 m_X4_isMatch (rL 1) (aI (iL 12) (aI (iCallV 3 m_X3_wantedOf (rL 3) (aI (iL 2) (aI (iL 11) (aN)))) (aN))))) (sSeq (sLoc 7 (iAdd (iL 7) (iQ (cEq (iL 12) (iC (-1))) (iC 0) (iC 1)))) (sSeq (sLoc 8 (iAdd (iL 8) (iQ (cNe (iL 13) (iC 0)) (iC 1) (iC 0)))) (sSeq (sLoc 9 (iAdd (iL 9) (iQ (cAnd (cAnd (cNe (iL 13) (iC 0)) (cNe (iL 10) (iC 0))) (cNe (iCallS m_X1_isBarLine (aI (iAdd (iL 5) (iL 11)) (aI (iL 6) (aN)))) (iC 0))) (iC 1) (iC 0)))) (sLoc 10 (iL 13))))))) (sInc 11 1)))) (sSeq (sAst (rF 1 0 (rL 0)) (iL 2) (iL 8)) (sSeq (sAst (rF 1 1 (rL 0)) (iL 2) (iQ (cLt (iL 4) (iC 1)) (iC 0) (iDiv (iMul (iL 8) (iC 100)) (iL 4)))) (sSeq (sAst (rF 1 2 (rL 0)) (iL 2) (iL 9)) (sSeq (sAst (rF 1 3 (rL 0)) (iL 2) (iCallV 4 m_X4_onsetNear (rL 1) (aI (iL 5) (aN)))) (sAst (rF 1 4 (rL 0)) (iL 2) (iCallV 1 m_X1_reasonFor (rL 0) (aI (iL 2) (aI (iL 7) (aI (iCallV 4 m_X4_setting (rL 1) (aI (iC 4) (aN))) (aN)))))))))))))))))))) sRetV
def m_X1_hear : Mt := mk0 3 B_X1_hear
set_option maxRecDepth 20000 in
theorem ok_X1_hear : MOkV yX1_hear cX1_hear 14 rm_X1_hear m_X1_hear := by
  unfold m_X1_hear
  refine MOkV_mk0 (pe := 230) (by decide +kernel) (by decide) (by decide) ⟨rfl, rfl⟩ (fun Rt G hG => ?_)
  have hG : Mach RX1 cX1_hear 14 "hear" rm_X1_hear none 3 0 (fun _ => 0) Rt G := hG
  unfold B_X1_hear
  exact S_seq hG (p1 := 229) (S_seq hG (p1 := 11) (S_if1 hG (p1 := 10) (p2 := 11) (C_not hG (C_ne_T0 hG (p1 := 7) (tgt := 11) (I_callN hG (p2 := 4) ok_X6_isWithin ckX1_83 ⟨rfl, rfl⟩ ⟨by decide, by decide⟩ (by decide) (A_int hG (p1 := 1) (I_iload_n hG dX1_hear_0 rfl (by decide)) (A_int hG (p1 := 2) (I_iconst hG dX1_hear_1 (by decide) ⟨by decide, by decide⟩) (A_int hG (p1 := 4) (I_bipush hG dX1_hear_2 (by decide) ⟨by decide, by decide⟩) (A_nil hG)))) dX1_hear_4) dX1_hear_7 (by decide))) (S_retV hG rfl dX1_hear_10)) (S_seq hG (p1 := 16) (S_astore_n hG (p1 := 15) (R_getf hG foX1_49 (p1 := 12) (R_aload_n hG dX1_hear_11 rfl (by decide)) dX1_hear_12) dX1_hear_15 rfl (by decide)) (S_seq hG (p1 := 23) (S_istore hG (p1 := 21) (I_callV hG (p1 := 17) (p2 := 18) ok_X3_lengthOf ckX1_69 ⟨rfl, rfl⟩ (by decide) rfl ⟨by decide, by decide⟩ (by decide) (R_aload_n hG dX1_hear_16 rfl (by decide)) (A_int hG (p1 := 18) (I_iload_n hG dX1_hear_17 rfl (by decide)) (A_nil hG)) dX1_hear_18) dX1_hear_21 (by decide)) (S_seq hG (p1 := 30) (S_istore hG (p1 := 28) (I_callV hG (p1 := 24) (p2 := 25) ok_X3_beginningOf ckX1_80 ⟨rfl, rfl⟩ (by decide) rfl ⟨by decide, by decide⟩ (by decide) (R_aload_n hG dX1_hear_23 rfl (by decide)) (A_int hG (p1 := 25) (I_iload_n hG dX1_hear_24 rfl (by decide)) (A_nil hG)) dX1_hear_25) dX1_hear_28 (by decide)) (S_seq hG (p1 := 37) (S_istore hG (p1 := 35) (I_callV hG (p1 := 31) (p2 := 32) ok_X4_setting ckX1_73 ⟨rfl, rfl⟩ (by decide) rfl ⟨by decide, by decide⟩ (by decide) (R_aload_n hG dX1_hear_30 rfl (by decide)) (A_int hG (p1 := 32) (I_iconst hG dX1_hear_31 (by decide) ⟨by decide, by decide⟩) (A_nil hG)) dX1_hear_32) dX1_hear_35 (by decide)) (S_seq hG (p1 := 40) (S_istore hG (p1 := 38) (I_iconst hG dX1_hear_37 (by decide) ⟨by decide, by decide⟩) dX1_hear_38 (by decide)) (S_seq hG (p1 := 43) (S_istore hG (p1 := 41) (I_iconst hG dX1_hear_40 (by decide) ⟨by decide, by decide⟩) dX1_hear_41 (by decide)) (S_seq hG (p1 := 46) (S_istore hG (p1 := 44) (I_iconst hG dX1_hear_43 (by decide) ⟨by decide, by decide⟩) dX1_hear_44 (by decide)) (S_seq hG (p1 := 49) (S_istore hG (p1 := 47) (I_iconst hG dX1_hear_46 (by decide) ⟨by decide, by decide⟩) dX1_hear_47 (by decide)) (S_seq hG (p1 := 159) (S_seq hG (p1 := 52) (S_istore hG (p1 := 50) (I_iconst hG dX1_hear_49 (by decide) ⟨by decide, by decide⟩) dX1_hear_50 (by decide)) (S_while hG (p1 := 59) (p2 := 159) (C_lt_F hG (p1 := 54) (p2 := 56) (tgt := 159) (I_iload hG dX1_hear_52 (by decide)) (I_iload hG dX1_hear_54 (by decide)) dX1_hear_56 (by decide)) (S_seq hG (p1 := 153) (S_seq hG (p1 := 70) (S_istore hG (p1 := 68) (I_callV hG (p1 := 60) (p2 := 65) ok_X4_sungAt ckX1_87 ⟨rfl, rfl⟩ (by decide) rfl ⟨by decide, by decide⟩ (by decide) (R_aload_n hG dX1_hear_59 rfl (by decide)) (A_int hG (p1 := 65) (I_iadd hG (p1 := 62) (p2 := 64) (I_iload hG dX1_hear_60 (by decide)) (I_iload hG dX1_hear_62 (by decide)) dX1_hear_64) (A_nil hG)) dX1_hear_65) dX1_hear_68 (by decide)) (S_seq hG (p1 := 85) (S_istore hG (p1 := 83) (I_callV hG (p1 := 71) (p2 := 80) ok_X4_isMatch ckX1_93 ⟨rfl, rfl⟩ (by decide) rfl ⟨by decide, by decide⟩ (by decide) (R_aload_n hG dX1_hear_70 rfl (by decide)) (A_int hG (p1 := 73) (I_iload hG dX1_hear_71 (by decide)) (A_int hG (p1 := 80) (I_callV hG (p1 := 74) (p2 := 77) ok_X3_wantedOf ckX1_90 ⟨rfl, rfl⟩ (by decide) rfl ⟨by decide, by decide⟩ (by decide) (R_aload_n hG dX1_hear_73 rfl (by decide)) (A_int hG (p1 := 75) (I_iload_n hG dX1_hear_74 rfl (by decide)) (A_int hG (p1 := 77) (I_iload hG dX1_hear_75 (by decide)) (A_nil hG))) dX1_hear_77) (A_nil hG))) dX1_hear_80) dX1_hear_83 (by decide)) (S_seq hG (p1 := 101) (S_istore hG (p1 := 99) (I_iadd hG (p1 := 87) (p2 := 98) (I_iload hG dX1_hear_85 (by decide)) (I_ternX hG (p1 := 93) (p3 := 97) (p4 := 98) (C_eq_F hG (p1 := 89) (p2 := 90) (tgt := 97) (I_iload hG dX1_hear_87 (by decide)) (I_iconst hG dX1_hear_89 (by decide) ⟨by decide, by decide⟩) dX1_hear_90 (by decide)) (I_goto hG (I_iconst hG dX1_hear_93 (by decide) ⟨by decide, by decide⟩) dX1_hear_94 (p2 := 98) (by decide)) (I_iconst hG dX1_hear_97 (by decide) ⟨by decide, by decide⟩)) dX1_hear_98) dX1_hear_99 (by decide)) (S_seq hG (p1 := 116) (S_istore hG (p1 := 114) (I_iadd hG (p1 := 103) (p2 := 113) (I_iload hG dX1_hear_101 (by decide)) (I_ternX hG (p1 := 108) (p3 := 112) (p4 := 113) (C_ne_F0 hG (p1 := 105) (tgt := 112) (I_iload hG dX1_hear_103 (by decide)) dX1_hear_105 (by decide)) (I_goto hG (I_iconst hG dX1_hear_108 (by decide) ⟨by decide, by decide⟩) dX1_hear_109 (p2 := 113) (by decide)) (I_iconst hG dX1_hear_112 (by decide) ⟨by decide, by decide⟩)) dX1_hear_113) dX1_hear_114 (by decide)) (S_seq hG (p1 := 149) (S_istore hG (p1 := 147) (I_iadd hG (p1 := 118) (p2 := 146) (I_iload hG dX1_hear_116 (by decide)) (I_ternX hG (p1 := 141) (p3 := 145) (p4 := 146) (C_and hG (p1 := 128) (C_and hG (p1 := 123) (C_ne_F0 hG (p1 := 120) (tgt := 145) (I_iload hG dX1_hear_118 (by decide)) dX1_hear_120 (by decide)) (C_ne_F0 hG (p1 := 125) (tgt := 145) (I_iload hG dX1_hear_123 (by decide)) dX1_hear_125 (by decide))) (C_ne_F0 hG (p1 := 138) (tgt := 145) (I_callS hG (p2 := 135) ok_X1_isBarLine ckX1_97 ⟨rfl, rfl⟩ ⟨by decide, by decide⟩ (by decide) (A_int hG (p1 := 133) (I_iadd hG (p1 := 130) (p2 := 132) (I_iload hG dX1_hear_128 (by decide)) (I_iload hG dX1_hear_130 (by decide)) dX1_hear_132) (A_int hG (p1 := 135) (I_iload hG dX1_hear_133 (by decide)) (A_nil hG))) dX1_hear_135) dX1_hear_138 (by decide))) (I_goto hG (I_iconst hG dX1_hear_141 (by decide) ⟨by decide, by decide⟩) dX1_hear_142 (p2 := 146) (by decide)) (I_iconst hG dX1_hear_145 (by decide) ⟨by decide, by decide⟩)) dX1_hear_146) dX1_hear_147 (by decide)) (S_istore hG (p1 := 151) (I_iload hG dX1_hear_149 (by decide)) dX1_hear_151 (by decide))))))) (S_goto hG (p2 := 52) (S_iinc hG dX1_hear_153 (by decide)) dX1_hear_156 (by decide))))) (S_seq hG (p1 := 167) (S_iast hG (p1 := 163) (p2 := 164) (p3 := 166) (R_getf hG foX1_9 (p1 := 160) (R_aload_n hG dX1_hear_159 rfl (by decide)) dX1_hear_160) (I_iload_n hG dX1_hear_163 rfl (by decide)) (I_iload hG dX1_hear_164 (by decide)) dX1_hear_166) (S_seq hG (p1 := 191) (S_iast hG (p1 := 171) (p2 := 172) (p3 := 190) (R_getf hG foX1_15 (p1 := 168) (R_aload_n hG dX1_hear_167 rfl (by decide)) dX1_hear_168) (I_iload_n hG dX1_hear_171 rfl (by decide)) (I_ternX hG (p1 := 178) (p3 := 182) (p4 := 190) (C_lt_F hG (p1 := 174) (p2 := 175) (tgt := 182) (I_iload hG dX1_hear_172 (by decide)) (I_iconst hG dX1_hear_174 (by decide) ⟨by decide, by decide⟩) dX1_hear_175 (by decide)) (I_goto hG (I_iconst hG dX1_hear_178 (by decide) ⟨by decide, by decide⟩) dX1_hear_179 (p2 := 190) (by decide)) (I_idiv hG (p1 := 187) (p2 := 189) (I_imul hG (p1 := 184) (p2 := 186) (I_iload hG dX1_hear_182 (by decide)) (I_bipush hG dX1_hear_184 (by decide) ⟨by decide, by decide⟩) dX1_hear_186) (I_iload hG dX1_hear_187 (by decide)) dX1_hear_189)) dX1_hear_190) (S_seq hG (p1 := 199) (S_iast hG (p1 := 195) (p2 := 196) (p3 := 198) (R_getf hG foX1_18 (p1 := 192) (R_aload_n hG dX1_hear_191 rfl (by decide)) dX1_hear_192) (I_iload_n hG dX1_hear_195 rfl (by decide)) (I_iload hG dX1_hear_196 (by decide)) dX1_hear_198) (S_seq hG (p1 := 211) (S_iast hG (p1 := 203) (p2 := 204) (p3 := 210) (R_getf hG foX1_21 (p1 := 200) (R_aload_n hG dX1_hear_199 rfl (by decide)) dX1_hear_200) (I_iload_n hG dX1_hear_203 rfl (by decide)) (I_callV hG (p1 := 205) (p2 := 207) ok_X4_onsetNear ckX1_100 ⟨rfl, rfl⟩ (by decide) rfl ⟨by decide, by decide⟩ (by decide) (R_aload_n hG dX1_hear_204 rfl (by decide)) (A_int hG (p1 := 207) (I_iload hG dX1_hear_205 (by decide)) (A_nil hG)) dX1_hear_207) dX1_hear_210) (S_iast hG (p1 := 215) (p2 := 216) (p3 := 228) (R_getf hG foX1_24 (p1 := 212) (R_aload_n hG dX1_hear_211 rfl (by decide)) dX1_hear_212) (I_iload_n hG dX1_hear_215 rfl (by decide)) (I_callV hG (p1 := 217) (p2 := 225) ok_X1_reasonFor ckX1_103 ⟨rfl, rfl⟩ (by decide) rfl ⟨by decide, by decide⟩ (by decide) (R_aload_n hG dX1_hear_216 rfl (by decide)) (A_int hG (p1 := 218) (I_iload_n hG dX1_hear_217 rfl (by decide)) (A_int hG (p1 := 220) (I_iload hG dX1_hear_218 (by decide)) (A_int hG (p1 := 225) (I_callV hG (p1 := 221) (p2 := 222) ok_X4_setting ckX1_73 ⟨rfl, rfl⟩ (by decide) rfl ⟨by decide, by decide⟩ (by decide) (R_aload_n hG dX1_hear_220 rfl (by decide)) (A_int hG (p1 := 222) (I_iconst hG dX1_hear_221 (by decide) ⟨by decide, by decide⟩) (A_nil hG)) dX1_hear_222) (A_nil hG)))) dX1_hear_225) dX1_hear_228))))))))))))))) (S_retV hG rfl dX1_hear_229)
abbrev rm_X3_beginsPhrase : Room := { frames := 2, cells := 0, slots := 0, locals := 42 }
def B_X3_beginsPhrase : ST := sRet true (iQ (cOr (cEq (iL 1) (iC 0)) (cNe (iCallV 3 m_X3_phraseOf (rL 0) (aI (iL 1) (aN))) (iCallV 3 m_X3_phraseOf (rL 0) (aI (iSub (iL 1) (iC 1)) (aN))))) (iC 1) (iC 0))
def m_X3_beginsPhrase : Mt := mk0 2 B_X3_beginsPhrase
set_option maxRecDepth 20000 in
theorem ok_X3_beginsPhrase : MOkI yX3_beginsPhrase cX3_beginsPhrase 2 .boolean rm_X3_beginsPhrase m_X3_beginsPhrase := by
  unfold m_X3_beginsPhrase
  refine MOkI_mk0 (pe := 25) (by decide +kernel) (by decide) (by decide) ⟨rfl, rfl⟩ (fun Rt G hG => ?_)
  have hG : Mach RX3 cX3_beginsPhrase 2 "beginsPhrase" rm_X3_beginsPhrase (some .boolean) 3 0 (fun _ => 0) Rt G := hG
  unfold B_X3_beginsPhrase
  exact S_retB hG (p1 := 24) rfl rfl (I_ternX hG (p1 := 19) (p3 := 23) (p4 := 24) (C_or hG (p1 := 4) (C_eq_T0 hG (p1 := 1) (tgt := 19) (I_iload_n hG dX3_beginsPhrase_0 rfl (by decide)) dX3_beginsPhrase_1 (by decide)) (C_ne_F hG (p1 := 9) (p2 := 16) (tgt := 23) (I_callV hG (p1 := 5) (p2 := 6) ok_X3_phraseOf ckX3_42 ⟨rfl, rfl⟩ (by decide) rfl ⟨by decide, by decide⟩ (by decide) (R_aload_n hG dX3_beginsPhrase_4 rfl (by decide)) (A_int hG (p1 := 6) (I_iload_n hG dX3_beginsPhrase_5 rfl (by decide)) (A_nil hG)) dX3_beginsPhrase_6) (I_callV hG (p1 := 10) (p2 := 13) ok_X3_phraseOf ckX3_42 ⟨rfl, rfl⟩ (by decide) rfl ⟨by decide, by decide⟩ (by decide) (R_aload_n hG dX3_beginsPhrase_9 rfl (by decide)) (A_int hG (p1 := 13) (I_isub hG (p1 := 11) (p2 := 12) (I_iload_n hG dX3_beginsPhrase_10 rfl (by decide)) (I_iconst hG dX3_beginsPhrase_11 (by decide) ⟨by decide, by decide⟩) dX3_beginsPhrase_12) (A_nil hG)) dX3_beginsPhrase_13) dX3_beginsPhrase_16 (by decide))) (I_goto hG (I_iconst hG dX3_beginsPhrase_19 (by decide) ⟨by decide, by decide⟩) dX3_beginsPhrase_20 (p2 := 24) (by decide)) (I_iconst hG dX3_beginsPhrase_23 (by decide) ⟨by decide, by decide⟩)) dX3_beginsPhrase_24
abbrev rm_X1_beginPhrase : Room := { frames := 1, cells := 0, slots := 0, locals := 22 }
def B_X1_beginPhrase : ST := sSeq (sIf1 (cNe (iCallS m_X6_isWithin (aI (iL 1) (aI (iC 0) (aI (iC 39) (aN))))) (iC 0)) (sSeq (sAst (rF 1 7 (rL 0)) (iL 1) (iC 0)) (sSeq (sAst (rF 1 8 (rL 0)) (iL 1) (iC 0)) (sAst (rF 1 9 (rL 0)) (iL 1) (iC 0))))) sRetV
def m_X1_beginPhrase : Mt := mk0 2 B_X1_beginPhrase
set_option maxRecDepth 20000 in
theorem ok_X1_beginPhrase : MOkV yX1_beginPhrase cX1_beginPhrase 2 rm_X1_beginPhrase m_X1_beginPhrase := by
  unfold m_X1_beginPhrase
  refine MOkV_mk0 (pe := 32) (by decide +kernel) (by decide) (by decide) ⟨rfl, rfl⟩ (fun Rt G hG => ?_)
  have hG : Mach RX1 cX1_beginPhrase 2 "beginPhrase" rm_X1_beginPhrase none 3 0 (fun _ => 0) Rt G := hG
  unfold B_X1_beginPhrase
  exact S_seq hG (p1 := 31) (S_if1 hG (p1 := 10) (p2 := 31) (C_ne_F0 hG (p1 := 7) (tgt := 31) (I_callN hG (p2 := 4) ok_X6_isWithin ckX1_83 ⟨rfl, rfl⟩ ⟨by decide, by decide⟩ (by decide) (A_int hG (p1 := 1) (I_iload_n hG dX1_beginPhrase_0 rfl (by decide)) (A_int hG (p1 := 2) (I_iconst hG dX1_beginPhrase_1 (by decide) ⟨by decide, by decide⟩) (A_int hG (p1 := 4) (I_bipush hG dX1_beginPhrase_2 (by decide) ⟨by decide, by decide⟩) (A_nil hG)))) dX1_beginPhrase_4) dX1_beginPhrase_7 (by decide)) (S_seq hG (p1 := 17) (S_iast hG (p1 := 14) (p2 := 15) (p3 := 16) (R_getf hG foX1_33 (p1 := 11) (R_aload_n hG dX1_beginPhrase_10 rfl (by decide)) dX1_beginPhrase_11) (I_iload_n hG dX1_beginPhrase_14 rfl (by decide)) (I_iconst hG dX1_beginPhrase_15 (by decide) ⟨by decide, by decide⟩) dX1_beginPhrase_16) (S_seq hG (p1 := 24) (S_iast hG (p1 := 21) (p2 := 22) (p3 := 23) (R_getf hG foX1_36 (p1 := 18) (R_aload_n hG dX1_beginPhrase_17 rfl (by decide)) dX1_beginPhrase_18) (I_iload_n hG dX1_beginPhrase_21 rfl (by decide)) (I_iconst hG dX1_beginPhrase_22 (by decide) ⟨by decide, by decide⟩) dX1_beginPhrase_23) (S_iast hG (p1 := 28) (p2 := 29) (p3 := 30) (R_getf hG foX1_39 (p1 := 25) (R_aload_n hG dX1_beginPhrase_24 rfl (by decide)) dX1_beginPhrase_25) (I_iload_n hG dX1_beginPhrase_28 rfl (by decide)) (I_iconst hG dX1_beginPhrase_29 (by decide) ⟨by decide, by decide⟩) dX1_beginPhrase_30)))) (S_retV hG rfl dX1_beginPhrase_31)
abbrev rm_X1_scoreOf : Room := { frames := 2, cells := 0, slots := 0, locals := 42 }
def B_X1_scoreOf : ST := sSeq (sIf1 (cOr (cNot (cNe (iCallS m_X6_isWithin (aI (iL 2) (aI (iC 0) (aI (iC 39) (aN))))) (iC 0))) (cNe (iA (rF 1 4 (rL 0)) (iL 2)) (iC 0))) (sRet false (iC 0))) (sSeq (sLoc 3 (iAbs (iSub (iA (rF 1 3 (rL 0)) (iL 2)) (iCallV 3 m_X3_beginningOf (rL 1) (aI (iL 2) (aN)))))) (sSeq (sLoc 4 (iSub (iAdd (iA (rF 1 1 (rL 0)) (iL 2)) (iMul (iC 5) (iA (rF 1 2 (rL 0)) (iL 2)))) (iMul (iC 2) (iL 3)))) (sRet false (iDiv (iMul (iMax (iC 0) (iL 4)) (iAdd (iC 10) (iA (rF 1 5 (rL 0)) (iL 2)))) (iC 10)))))
def m_X1_scoreOf : Mt := mk0 3 B_X1_scoreOf
set_option maxRecDepth 20000 in
theorem ok_X1_scoreOf : MOkI yX1_scoreOf cX1_scoreOf 5 .int rm_X1_scoreOf m_X1_scoreOf := by
  unfold m_X1_scoreOf
  refine MOkI_mk0 (pe := 78) (by decide +kernel) (by decide) (by decide) ⟨rfl, rfl⟩ (fun Rt G hG => ?_)
  have hG : Mach RX1 cX1_scoreOf 5 "scoreOf" rm_X1_scoreOf (some .int) 3 0 (fun _ => 0) Rt G := hG
  unfold B_X1_scoreOf
  exact S_seq hG (p1 := 21) (S_if1 hG (p1 := 19) (p2 := 21) (C_or hG (p1 := 10) (C_not hG (C_ne_F0 hG (p1 := 7) (tgt := 19) (I_callN hG (p2 := 4) ok_X6_isWithin ckX1_83 ⟨rfl, rfl⟩ ⟨by decide, by decide⟩ (by decide) (A_int hG (p1 := 1) (I_iload_n hG dX1_scoreOf_0 rfl (by decide)) (A_int hG (p1 := 2) (I_iconst hG dX1_scoreOf_1 (by decide) ⟨by decide, by decide⟩) (A_int hG (p1 := 4) (I_bipush hG dX1_scoreOf_2 (by decide) ⟨by decide, by decide⟩) (A_nil hG)))) dX1_scoreOf_4) dX1_scoreOf_7 (by decide))) (C_ne_F0 hG (p1 := 16) (tgt := 21) (I_iald hG (p1 := 14) (p2 := 15) (R_getf hG foX1_24 (p1 := 11) (R_aload_n hG dX1_scoreOf_10 rfl (by decide)) dX1_scoreOf_11) (I_iload_n hG dX1_scoreOf_14 rfl (by decide)) dX1_scoreOf_15) dX1_scoreOf_16 (by decide))) (S_ret hG (p1 := 20) rfl rfl (I_iconst hG dX1_scoreOf_19 (by decide) ⟨by decide, by decide⟩) dX1_scoreOf_20)) (S_seq hG (p1 := 37) (S_istore_n hG (p1 := 36) (I_mabs hG (p1 := 33) (I_isub hG (p1 := 27) (p2 := 32) (I_iald hG (p1 := 25) (p2 := 26) (R_getf hG foX1_21 (p1 := 22) (R_aload_n hG dX1_scoreOf_21 rfl (by decide)) dX1_scoreOf_22) (I_iload_n hG dX1_scoreOf_25 rfl (by decide)) dX1_scoreOf_26) (I_callV hG (p1 := 28) (p2 := 29) ok_X3_beginningOf ckX1_80 ⟨rfl, rfl⟩ (by decide) rfl ⟨by decide, by decide⟩ (by decide) (R_aload_n hG dX1_scoreOf_27 rfl (by decide)) (A_int hG (p1 := 29) (I_iload_n hG dX1_scoreOf_28 rfl (by decide)) (A_nil hG)) dX1_scoreOf_29) dX1_scoreOf_32) maX1_148 ⟨by decide, by decide⟩ dX1_scoreOf_33) dX1_scoreOf_36 rfl (by decide)) (S_seq hG (p1 := 58) (S_istore hG (p1 := 56) (I_isub hG (p1 := 52) (p2 := 55) (I_iadd hG (p1 := 43) (p2 := 51) (I_iald hG (p1 := 41) (p2 := 42) (R_getf hG foX1_15 (p1 := 38) (R_aload_n hG dX1_scoreOf_37 rfl (by decide)) dX1_scoreOf_38) (I_iload_n hG dX1_scoreOf_41 rfl (by decide)) dX1_scoreOf_42) (I_imul hG (p1 := 44) (p2 := 50) (I_iconst hG dX1_scoreOf_43 (by decide) ⟨by decide, by decide⟩) (I_iald hG (p1 := 48) (p2 := 49) (R_getf hG foX1_18 (p1 := 45) (R_aload_n hG dX1_scoreOf_44 rfl (by decide)) dX1_scoreOf_45) (I_iload_n hG dX1_scoreOf_48 rfl (by decide)) dX1_scoreOf_49) dX1_scoreOf_50) dX1_scoreOf_51) (I_imul hG (p1 := 53) (p2 := 54) (I_iconst hG dX1_scoreOf_52 (by decide) ⟨by decide, by decide⟩) (I_iload_n hG dX1_scoreOf_53 rfl (by decide)) dX1_scoreOf_54) dX1_scoreOf_55) dX1_scoreOf_56 (by decide)) (S_ret hG (p1 := 77) rfl rfl (I_idiv hG (p1 := 74) (p2 := 76) (I_imul hG (p1 := 64) (p2 := 73) (I_mmax hG (p1 := 59) (p2 := 61) (I_iconst hG dX1_scoreOf_58 (by decide) ⟨by decide, by decide⟩) (I_iload hG dX1_scoreOf_59 (by decide)) maX1_136 ⟨by decide, by decide⟩ dX1_scoreOf_61) (I_iadd hG (p1 := 66) (p2 := 72) (I_bipush hG dX1_scoreOf_64 (by decide) ⟨by decide, by decide⟩) (I_iald hG (p1 := 70) (p2 := 71) (R_getf hG foX1_27 (p1 := 67) (R_aload_n hG dX1_scoreOf_66 rfl (by decide)) dX1_scoreOf_67) (I_iload_n hG dX1_scoreOf_70 rfl (by decide)) dX1_scoreOf_71) dX1_scoreOf_72) dX1_scoreOf_73) (I_bipush hG dX1_scoreOf_74 (by decide) ⟨by decide, by decide⟩) dX1_scoreOf_76) dX1_scoreOf_77)))
abbrev rm_X3_sizeOfPhrase : Room := { frames := 2, cells := 0, slots := 0, locals := 42 }
def B_X3_sizeOfPhrase : ST := sSeq (sLoc 2 (iC 0)) (sSeq (sSeq (sLoc 3 (iC 0)) (sWhile (cLt (iL 3) (iF 3 5 (rL 0))) (sSeq (sIf1 (cEq (iCallV 3 m_X3_phraseOf (rL 0) (aI (iL 3) (aN))) (iL 1)) (sInc 2 1)) (sInc 3 1)))) (sRet false (iL 2)))
def m_X3_sizeOfPhrase : Mt := mk0 2 B_X3_sizeOfPhrase
set_option maxRecDepth 20000 in
theorem ok_X3_sizeOfPhrase : MOkI yX3_sizeOfPhrase cX3_sizeOfPhrase 4 .int rm_X3_sizeOfPhrase m_X3_sizeOfPhrase := by
  unfold m_X3_sizeOfPhrase
  refine MOkI_mk0 (pe := 32) (by decide +kernel) (by decide) (by decide) ⟨rfl, rfl⟩ (fun Rt G hG => ?_)
  have hG : Mach RX3 cX3_sizeOfPhrase 4 "sizeOfPhrase" rm_X3_sizeOfPhrase (some .int) 3 0 (fun _ => 0) Rt G := hG
  unfold B_X3_sizeOfPhrase
  exact S_seq hG (p1 := 2) (S_istore_n hG (p1 := 1) (I_iconst hG dX3_sizeOfPhrase_0 (by decide) ⟨by decide, by decide⟩) dX3_sizeOfPhrase_1 rfl (by decide)) (S_seq hG (p1 := 30) (S_seq hG (p1 := 4) (S_istore_n hG (p1 := 3) (I_iconst hG dX3_sizeOfPhrase_2 (by decide) ⟨by decide, by decide⟩) dX3_sizeOfPhrase_3 rfl (by decide)) (S_while hG (p1 := 12) (p2 := 30) (C_lt_F hG (p1 := 5) (p2 := 9) (tgt := 30) (I_iload_n hG dX3_sizeOfPhrase_4 rfl (by decide)) (I_getf hG foX3_27 (p1 := 6) (R_aload_n hG dX3_sizeOfPhrase_5 rfl (by decide)) dX3_sizeOfPhrase_6) dX3_sizeOfPhrase_9 (by decide)) (S_seq hG (p1 := 24) (S_if1 hG (p1 := 21) (p2 := 24) (C_eq_F hG (p1 := 17) (p2 := 18) (tgt := 24) (I_callV hG (p1 := 13) (p2 := 14) ok_X3_phraseOf ckX3_42 ⟨rfl, rfl⟩ (by decide) rfl ⟨by decide, by decide⟩ (by decide) (R_aload_n hG dX3_sizeOfPhrase_12 rfl (by decide)) (A_int hG (p1 := 14) (I_iload_n hG dX3_sizeOfPhrase_13 rfl (by decide)) (A_nil hG)) dX3_sizeOfPhrase_14) (I_iload_n hG dX3_sizeOfPhrase_17 rfl (by decide)) dX3_sizeOfPhrase_18 (by decide)) (S_iinc hG dX3_sizeOfPhrase_21 (by decide))) (S_goto hG (p2 := 4) (S_iinc hG dX3_sizeOfPhrase_24 (by decide)) dX3_sizeOfPhrase_27 (by decide))))) (S_ret hG (p1 := 31) rfl rfl (I_iload_n hG dX3_sizeOfPhrase_30 rfl (by decide)) dX3_sizeOfPhrase_31))
abbrev rm_X1_extraOf : Room := { frames := 0, cells := 0, slots := 0, locals := 0 }
def B_X1_extraOf : ST := sRet false (iQ (cAnd (cGe (iL 1) (iC 2)) (cEq (iL 0) (iL 1))) (iC 50) (iC 0))
def m_X1_extraOf : Mt := mk0 2 B_X1_extraOf
set_option maxRecDepth 20000 in
theorem ok_X1_extraOf : MOkI yX1_extraOf cX1_extraOf 2 .int rm_X1_extraOf m_X1_extraOf := by
  unfold m_X1_extraOf
  refine MOkI_mk0 (pe := 17) (by decide +kernel) (by decide) (by decide) ⟨rfl, rfl⟩ (fun Rt G hG => ?_)
  have hG : Mach RX1 cX1_extraOf 2 "extraOf" rm_X1_extraOf (some .int) 3 0 (fun _ => 0) Rt G := hG
  unfold B_X1_extraOf
  exact S_ret hG (p1 := 16) rfl rfl (I_ternX hG (p1 := 10) (p3 := 15) (p4 := 16) (C_and hG (p1 := 5) (C_ge_F hG (p1 := 1) (p2 := 2) (tgt := 15) (I_iload_n hG dX1_extraOf_0 rfl (by decide)) (I_iconst hG dX1_extraOf_1 (by decide) ⟨by decide, by decide⟩) dX1_extraOf_2 (by decide)) (C_eq_F hG (p1 := 6) (p2 := 7) (tgt := 15) (I_iload_n hG dX1_extraOf_5 rfl (by decide)) (I_iload_n hG dX1_extraOf_6 rfl (by decide)) dX1_extraOf_7 (by decide))) (I_goto hG (I_bipush hG dX1_extraOf_10 (by decide) ⟨by decide, by decide⟩) dX1_extraOf_12 (p2 := 16) (by decide)) (I_iconst hG dX1_extraOf_15 (by decide) ⟨by decide, by decide⟩)) dX1_extraOf_16
abbrev rm_X1_score : Room := { frames := 3, cells := 0, slots := 0, locals := 66 }
def B_X1_score : ST := sSeq (sSeq (sPut false 1 10 (rL 0) (iC 0)) (sSeq (sPut false 1 11 (rL 0) (iC 0)) (sSeq (sLoc 2 (iC 0)) (sSeq (sSeq (sLoc 3 (iC 0)) (sWhile (cAnd (cLt (iL 3) (iCallV 3 m_X3_size (rL 1) (aN))) (cLt (iL 3) (iC 40))) (sSeq (sSeq (sLoc 4 (iCallV 3 m_X3_phraseOf (rL 1) (aI (iL 3) (aN)))) (sSeq (sIf1 (cNot (cNe (iCallS m_X6_isWithin (aI (iL 4) (aI (iC 0) (aI (iC 39) (aN))))) (iC 0))) (sRetV)) (sSeq (sIf1 (cNe (iCallV 3 m_X3_beginsPhrase (rL 1) (aI (iL 3) (aN))) (iC 0)) (sSeq (sCallV 1 m_X1_beginPhrase (rL 0) (aI (iL 4) (aN))) (sLoc 2 (iC 0)))) (sSeq (sAst (rF 1 5 (rL 0)) (iL 3) (iMin (iL 2) (iC 10))) (sSeq (sAst (rF 1 6 (rL 0)) (iL 3) (iCallV 1 m_X1_scoreOf (rL 0) (aR (rL 1) (aI (iL 3) (aN))))) (sSeq (sAstAdd (rF 1 8 (rL 0)) (iL 4) (iA (rF 1 6 (rL 0)) (iL 3))) (sSeq (sLoc 2 (iQ (cEq (iA (rF 1 4 (rL 0)) (iL 3)) (iC 0)) (iAdd (iL 2) (iC 1)) (iC 0))) (sSeq (sAstAdd (rF 1 7 (rL 0)) (iL 4) (iQ (cEq (iA (rF 1 4 (rL 0)) (iL 3)) (iC 0)) (iC 1) (iC 0))) (sAst (rF 1 9 (rL 0)) (iL 4) (iMax (iA (rF 1 9 (rL 0)) (iL 4)) (iL 2))))))))))) (sInc 3 1)))) (sSeq (sLoc 3 (iC 0)) (sWhile (cAnd (cLt (iL 3) (iCallV 3 m_X3_phraseCount (rL 1) (aN))) (cLt (iL 3) (iC 40))) (sSeq (sSeq (sAstAdd (rF 1 8 (rL 0)) (iL 3) (iCallS m_X1_extraOf (aI (iA (rF 1 7 (rL 0)) (iL 3)) (aI (iCallV 3 m_X3_sizeOfPhrase (rL 1) (aI (iL 3) (aN))) (aN))))) (sSeq (sPutAdd 1 10 (rL 0) (iA (rF 1 7 (rL 0)) (iL 3))) (sPutAdd 1 11 (rL 0) (iA (rF 1 8 (rL 0)) (iL 3))))) (sInc 3 1)))))))) sRetV
def m_X1_score : Mt := mk0 2 B_X1_score
set_option maxRecDepth 20000 in
theorem ok_X1_score : MOkV yX1_score cX1_score 5 rm_X1_score m_X1_score := by
  unfold m_X1_score
  refine MOkV_mk0 (pe := 244) (by decide +kernel) (by decide) (by decide) ⟨rfl, rfl⟩ (fun Rt G hG => ?_)
  have hG : Mach RX1 cX1_score 5 "score" rm_X1_score none 3 0 (fun _ => 0) Rt G := hG
  unfold B_X1_score
  exact S_seq hG (p1 := 243) (S_seq hG (p1 := 5) (S_putI hG poX1_42 (p1 := 1) (p2 := 2) (R_aload_n hG dX1_score_0 rfl (by decide)) (I_iconst hG dX1_score_1 (by decide) ⟨by decide, by decide⟩) dX1_score_2) (S_seq hG (p1 := 10) (S_putI hG poX1_46 (p1 := 6) (p2 := 7) (R_aload_n hG dX1_score_5 rfl (by decide)) (I_iconst hG dX1_score_6 (by decide) ⟨by decide, by decide⟩) dX1_score_7) (S_seq hG (p1 := 12) (S_istore_n hG (p1 := 11) (I_iconst hG dX1_score_10 (by decide) ⟨by decide, by decide⟩) dX1_score_11 rfl (by decide)) (S_seq hG (p1 := 168) (S_seq hG (p1 := 14) (S_istore_n hG (p1 := 13) (I_iconst hG dX1_score_12 (by decide) ⟨by decide, by decide⟩) dX1_score_13 rfl (by decide)) (S_while hG (p1 := 28) (p2 := 168) (C_and hG (p1 := 22) (C_lt_F hG (p1 := 15) (p2 := 19) (tgt := 168) (I_iload_n hG dX1_score_14 rfl (by decide)) (I_callV hG (p1 := 16) (p2 := 16) ok_X3_size ckX1_55 ⟨rfl, rfl⟩ (by decide) rfl ⟨by decide, by decide⟩ (by decide) (R_aload_n hG dX1_score_15 rfl (by decide)) (A_nil hG) dX1_score_16) dX1_score_19 (by decide)) (C_lt_F hG (p1 := 23) (p2 := 25) (tgt := 168) (I_iload_n hG dX1_score_22 rfl (by decide)) (I_bipush hG dX1_score_23 (by decide) ⟨by decide, by decide⟩) dX1_score_25 (by decide))) (S_seq hG (p1 := 162) (S_seq hG (p1 := 35) (S_istore hG (p1 := 33) (I_callV hG (p1 := 29) (p2 := 30) ok_X3_phraseOf ckX1_116 ⟨rfl, rfl⟩ (by decide) rfl ⟨by decide, by decide⟩ (by decide) (R_aload_n hG dX1_score_28 rfl (by decide)) (A_int hG (p1 := 30) (I_iload_n hG dX1_score_29 rfl (by decide)) (A_nil hG)) dX1_score_30) dX1_score_33 (by decide)) (S_seq hG (p1 := 47) (S_if1 hG (p1 := 46) (p2 := 47) (C_not hG (C_ne_T0 hG (p1 := 43) (tgt := 47) (I_callN hG (p2 := 40) ok_X6_isWithin ckX1_83 ⟨rfl, rfl⟩ ⟨by decide, by decide⟩ (by decide) (A_int hG (p1 := 37) (I_iload hG dX1_score_35 (by decide)) (A_int hG (p1 := 38) (I_iconst hG dX1_score_37 (by decide) ⟨by decide, by decide⟩) (A_int hG (p1 := 40) (I_bipush hG dX1_score_38 (by decide) ⟨by decide, by decide⟩) (A_nil hG)))) dX1_score_40) dX1_score_43 (by decide))) (S_retV hG rfl dX1_score_46)) (S_seq hG (p1 := 63) (S_if1 hG (p1 := 55) (p2 := 63) (C_ne_F0 hG (p1 := 52) (tgt := 63) (I_callV hG (p1 := 48) (p2 := 49) ok_X3_beginsPhrase ckX1_119 ⟨rfl, rfl⟩ (by decide) rfl ⟨by decide, by decide⟩ (by decide) (R_aload_n hG dX1_score_47 rfl (by decide)) (A_int hG (p1 := 49) (I_iload_n hG dX1_score_48 rfl (by decide)) (A_nil hG)) dX1_score_49) dX1_score_52 (by decide)) (S_seq hG (p1 := 61) (S_callV hG (p1 := 56) (p2 := 58) ok_X1_beginPhrase ckX1_123 ⟨rfl, rfl⟩ (by decide) rfl ⟨by decide, by decide⟩ (R_aload_n hG dX1_score_55 rfl (by decide)) (A_int hG (p1 := 58) (I_iload hG dX1_score_56 (by decide)) (A_nil hG)) dX1_score_58) (S_istore_n hG (p1 := 62) (I_iconst hG dX1_score_61 (by decide) ⟨by decide, by decide⟩) dX1_score_62 rfl (by decide)))) (S_seq hG (p1 := 75) (S_iast hG (p1 := 67) (p2 := 68) (p3 := 74) (R_getf hG foX1_27 (p1 := 64) (R_aload_n hG dX1_score_63 rfl (by decide)) dX1_score_64) (I_iload_n hG dX1_score_67 rfl (by decide)) (I_mmin hG (p1 := 69) (p2 := 71) (I_iload_n hG dX1_score_68 rfl (by decide)) (I_bipush hG dX1_score_69 (by decide) ⟨by decide, by decide⟩) maX1_127 ⟨by decide, by decide⟩ dX1_score_71) dX1_score_74) (S_seq hG (p1 := 87) (S_iast hG (p1 := 79) (p2 := 80) (p3 := 86) (R_getf hG foX1_30 (p1 := 76) (R_aload_n hG dX1_score_75 rfl (by decide)) dX1_score_76) (I_iload_n hG dX1_score_79 rfl (by decide)) (I_callV hG (p1 := 81) (p2 := 83) ok_X1_scoreOf ckX1_132 ⟨rfl, rfl⟩ (by decide) rfl ⟨by decide, by decide⟩ (by decide) (R_aload_n hG dX1_score_80 rfl (by decide)) (A_ref hG (p1 := 82) (R_aload_n hG dX1_score_81 rfl (by decide)) (A_int hG (p1 := 83) (I_iload_n hG dX1_score_82 rfl (by decide)) (A_nil hG))) dX1_score_83) dX1_score_86) (S_seq hG (p1 := 103) (S_astAdd hG (p1 := 91) (p2 := 93) (p3 := 101) (R_getf hG foX1_36 (p1 := 88) (R_aload_n hG dX1_score_87 rfl (by decide)) dX1_score_88) (I_iload hG dX1_score_91 (by decide)) dX1_score_93 dX1_score_94 (I_iald hG (p1 := 99) (p2 := 100) (R_getf hG foX1_30 (p1 := 96) (R_aload_n hG dX1_score_95 rfl (by decide)) dX1_score_96) (I_iload_n hG dX1_score_99 rfl (by decide)) dX1_score_100) dX1_score_101 dX1_score_102) (S_seq hG (p1 := 120) (S_istore_n hG (p1 := 119) (I_ternX hG (p1 := 112) (p3 := 118) (p4 := 119) (C_eq_F0 hG (p1 := 109) (tgt := 118) (I_iald hG (p1 := 107) (p2 := 108) (R_getf hG foX1_24 (p1 := 104) (R_aload_n hG dX1_score_103 rfl (by decide)) dX1_score_104) (I_iload_n hG dX1_score_107 rfl (by decide)) dX1_score_108) dX1_score_109 (by decide)) (I_goto hG (I_iadd hG (p1 := 113) (p2 := 114) (I_iload_n hG dX1_score_112 rfl (by decide)) (I_iconst hG dX1_score_113 (by decide) ⟨by decide, by decide⟩) dX1_score_114) dX1_score_115 (p2 := 119) (by decide)) (I_iconst hG dX1_score_118 (by decide) ⟨by decide, by decide⟩)) dX1_score_119 rfl (by decide)) (S_seq hG (p1 := 144) (S_astAdd hG (p1 := 124) (p2 := 126) (p3 := 142) (R_getf hG foX1_33 (p1 := 121) (R_aload_n hG dX1_score_120 rfl (by decide)) dX1_score_121) (I_iload hG dX1_score_124 (by decide)) dX1_score_126 dX1_score_127 (I_ternX hG (p1 := 137) (p3 := 141) (p4 := 142) (C_eq_F0 hG (p1 := 134) (tgt := 141) (I_iald hG (p1 := 132) (p2 := 133) (R_getf hG foX1_24 (p1 := 129) (R_aload_n hG dX1_score_128 rfl (by decide)) dX1_score_129) (I_iload_n hG dX1_score_132 rfl (by decide)) dX1_score_133) dX1_score_134 (by decide)) (I_goto hG (I_iconst hG dX1_score_137 (by decide) ⟨by decide, by decide⟩) dX1_score_138 (p2 := 142) (by decide)) (I_iconst hG dX1_score_141 (by decide) ⟨by decide, by decide⟩)) dX1_score_142 dX1_score_143) (S_iast hG (p1 := 148) (p2 := 150) (p3 := 161) (R_getf hG foX1_39 (p1 := 145) (R_aload_n hG dX1_score_144 rfl (by decide)) dX1_score_145) (I_iload hG dX1_score_148 (by decide)) (I_mmax hG (p1 := 157) (p2 := 158) (I_iald hG (p1 := 154) (p2 := 156) (R_getf hG foX1_39 (p1 := 151) (R_aload_n hG dX1_score_150 rfl (by decide)) dX1_score_151) (I_iload hG dX1_score_154 (by decide)) dX1_score_156) (I_iload_n hG dX1_score_157 rfl (by decide)) maX1_136 ⟨by decide, by decide⟩ dX1_score_158) dX1_score_161))))))))) (S_goto hG (p2 := 14) (S_iinc hG dX1_score_162 (by decide)) dX1_score_165 (by decide))))) (S_seq hG (p1 := 170) (S_istore_n hG (p1 := 169) (I_iconst hG dX1_score_168 (by decide) ⟨by decide, by decide⟩) dX1_score_169 rfl (by decide)) (S_while hG (p1 := 184) (p2 := 243) (C_and hG (p1 := 178) (C_lt_F hG (p1 := 171) (p2 := 175) (tgt := 243) (I_iload_n hG dX1_score_170 rfl (by decide)) (I_callV hG (p1 := 172) (p2 := 172) ok_X3_phraseCount ckX1_139 ⟨rfl, rfl⟩ (by decide) rfl ⟨by decide, by decide⟩ (by decide) (R_aload_n hG dX1_score_171 rfl (by decide)) (A_nil hG) dX1_score_172) dX1_score_175 (by decide)) (C_lt_F hG (p1 := 179) (p2 := 181) (tgt := 243) (I_iload_n hG dX1_score_178 rfl (by decide)) (I_bipush hG dX1_score_179 (by decide) ⟨by decide, by decide⟩) dX1_score_181 (by decide))) (S_seq hG (p1 := 237) (S_seq hG (p1 := 207) (S_astAdd hG (p1 := 188) (p2 := 189) (p3 := 205) (R_getf hG foX1_36 (p1 := 185) (R_aload_n hG dX1_score_184 rfl (by decide)) dX1_score_185) (I_iload_n hG dX1_score_188 rfl (by decide)) dX1_score_189 dX1_score_190 (I_callS hG (p2 := 202) ok_X1_extraOf ckX1_145 ⟨rfl, rfl⟩ ⟨by decide, by decide⟩ (by decide) (A_int hG (p1 := 197) (I_iald hG (p1 := 195) (p2 := 196) (R_getf hG foX1_33 (p1 := 192) (R_aload_n hG dX1_score_191 rfl (by decide)) dX1_score_192) (I_iload_n hG dX1_score_195 rfl (by decide)) dX1_score_196) (A_int hG (p1 := 202) (I_callV hG (p1 := 198) (p2 := 199) ok_X3_sizeOfPhrase ckX1_142 ⟨rfl, rfl⟩ (by decide) rfl ⟨by decide, by decide⟩ (by decide) (R_aload_n hG dX1_score_197 rfl (by decide)) (A_int hG (p1 := 199) (I_iload_n hG dX1_score_198 rfl (by decide)) (A_nil hG)) dX1_score_199) (A_nil hG))) dX1_score_202) dX1_score_205 dX1_score_206) (S_seq hG (p1 := 222) (S_putAdd hG foX1_42 poX1_42 (p1 := 208) (p2 := 218) (R_aload_n hG dX1_score_207 rfl (by decide)) dX1_score_208 dX1_score_209 (I_iald hG (p1 := 216) (p2 := 217) (R_getf hG foX1_33 (p1 := 213) (R_aload_n hG dX1_score_212 rfl (by decide)) dX1_score_213) (I_iload_n hG dX1_score_216 rfl (by decide)) dX1_score_217) dX1_score_218 dX1_score_219) (S_putAdd hG foX1_46 poX1_46 (p1 := 223) (p2 := 233) (R_aload_n hG dX1_score_222 rfl (by decide)) dX1_score_223 dX1_score_224 (I_iald hG (p1 := 231) (p2 := 232) (R_getf hG foX1_36 (p1 := 228) (R_aload_n hG dX1_score_227 rfl (by decide)) dX1_score_228) (I_iload_n hG dX1_score_231 rfl (by decide)) dX1_score_232) dX1_score_233 dX1_score_234))) (S_goto hG (p2 := 170) (S_iinc hG dX1_score_237 (by decide)) dX1_score_240 (by decide))))))))) (S_retV hG rfl dX1_score_243)
end
section
abbrev rm_X1_judge : Room := { frames := 4, cells := 0, slots := 0, locals := 99 }
def B_X1_judge : ST := sSeq (sSeq (sSeq (sLoc 2 (iC 0)) (sWhile (cLt (iL 2) (iCallV 3 m_X3_size (rF 4 0 (rL 1)) (aN))) (sSeq (sCallV 1 m_X1_hear (rL 0) (aR (rL 1) (aI (iL 2) (aN)))) (sInc 2 1)))) (sCallV 1 m_X1_score (rL 0) (aR (rF 4 0 (rL 1)) (aN)))) sRetV
def m_X1_judge : Mt := mk0 2 B_X1_judge
set_option maxRecDepth 20000 in
theorem ok_X1_judge : MOkV yX1_judge cX1_judge 3 rm_X1_judge m_X1_judge := by
  unfold m_X1_judge
  refine MOkV_mk0 (pe := 34) (by decide +kernel) (by decide) (by decide) ⟨rfl, rfl⟩ (fun Rt G hG => ?_)
  have hG : Mach RX1 cX1_judge 3 "judge" rm_X1_judge none 3 0 (fun _ => 0) Rt G := hG
  unfold B_X1_judge
  exact S_seq hG (p1 := 33) (S_seq hG (p1 := 25) (S_seq hG (p1 := 2) (S_istore_n hG (p1 := 1) (I_iconst hG dX1_judge_0 (by decide) ⟨by decide, by decide⟩) dX1_judge_1 rfl (by decide)) (S_while hG (p1 := 13) (p2 := 25) (C_lt_F hG (p1 := 3) (p2 := 10) (tgt := 25) (I_iload_n hG dX1_judge_2 rfl (by decide)) (I_callV hG (p1 := 7) (p2 := 7) ok_X3_size ckX1_55 ⟨rfl, rfl⟩ (by decide) rfl ⟨by decide, by decide⟩ (by decide) (R_getf hG foX1_49 (p1 := 4) (R_aload_n hG dX1_judge_3 rfl (by decide)) dX1_judge_4) (A_nil hG) dX1_judge_7) dX1_judge_10 (by decide)) (S_seq hG (p1 := 19) (S_callV hG (p1 := 14) (p2 := 16) ok_X1_hear ckX1_61 ⟨rfl, rfl⟩ (by decide) rfl ⟨by decide, by decide⟩ (R_aload_n hG dX1_judge_13 rfl (by decide)) (A_ref hG (p1 := 15) (R_aload_n hG dX1_judge_14 rfl (by decide)) (A_int hG (p1 := 16) (I_iload_n hG dX1_judge_15 rfl (by decide)) (A_nil hG))) dX1_judge_16) (S_goto hG (p2 := 2) (S_iinc hG dX1_judge_19 (by decide)) dX1_judge_22 (by decide))))) (S_callV hG (p1 := 26) (p2 := 30) ok_X1_score ckX1_65 ⟨rfl, rfl⟩ (by decide) rfl ⟨by decide, by decide⟩ (R_aload_n hG dX1_judge_25 rfl (by decide)) (A_ref hG (p1 := 30) (R_getf hG foX1_49 (p1 := 27) (R_aload_n hG dX1_judge_26 rfl (by decide)) dX1_judge_27) (A_nil hG)) dX1_judge_30)) (S_retV hG rfl dX1_judge_33)
abbrev rm_X6_hitsNow : Room := { frames := 5, cells := 0, slots := 0, locals := 121 }
def B_X6_hitsNow : ST := sSeq (sCallV 1 m_X1_judge (rF 6 7 (rL 0)) (aR (rF 6 0 (rL 0)) (aN))) (sRet false (iF 1 10 (rF 6 7 (rL 0))))
def m_X6_hitsNow : Mt := mk0 1 B_X6_hitsNow
set_option maxRecDepth 20000 in
theorem ok_X6_hitsNow : MOkI yX6_hitsNow cX6_hitsNow 1 .int rm_X6_hitsNow m_X6_hitsNow := by
  unfold m_X6_hitsNow
  refine MOkI_mk0 (pe := 19) (by decide +kernel) (by decide) (by decide) ⟨rfl, rfl⟩ (fun Rt G hG => ?_)
  have hG : Mach RX6 cX6_hitsNow 1 "hitsNow" rm_X6_hitsNow (some .int) 3 0 (fun _ => 0) Rt G := hG
  unfold B_X6_hitsNow
  exact S_seq hG (p1 := 11) (S_callV hG (p1 := 4) (p2 := 8) ok_X1_judge ckX6_152 ⟨rfl, rfl⟩ (by decide) rfl ⟨by decide, by decide⟩ (R_getf hG foX6_50 (p1 := 1) (R_aload_n hG dX6_hitsNow_0 rfl (by decide)) dX6_hitsNow_1) (A_ref hG (p1 := 8) (R_getf hG foX6_10 (p1 := 5) (R_aload_n hG dX6_hitsNow_4 rfl (by decide)) dX6_hitsNow_5) (A_nil hG)) dX6_hitsNow_8) (S_ret hG (p1 := 18) rfl rfl (I_getf hG foX6_245 (p1 := 15) (R_getf hG foX6_50 (p1 := 12) (R_aload_n hG dX6_hitsNow_11 rfl (by decide)) dX6_hitsNow_12) dX6_hitsNow_15) dX6_hitsNow_18)
abbrev rm_X6_sing : Room := { frames := 6, cells := 0, slots := 0, locals := 141 }
def B_X6_sing : ST := sSeq (sIf1 (cOr (cNot (cNe (iCallS m_X6_areTicks (aI (iL 1) (aI (iL 2) (aI (iC 64) (aN))))) (iC 0))) (cNot (cNe (iCallS m_X6_isWithin (aI (iL 3) (aI (iC 0) (aI (iC 60) (aN))))) (iC 0)))) (sRet false (iC (-2)))) (sSeq (sCallV 0 m_X0_record (rF 6 4 (rL 0)) (aR (rF 6 0 (rL 0)) (aN))) (sSeq (sCallV 4 m_X4_voice (rF 6 0 (rL 0)) (aI (iL 1) (aI (iL 2) (aI (iL 3) (aN))))) (sRet false (iCallV 6 m_X6_hitsNow (rL 0) (aN)))))
def m_X6_sing : Mt := mk0 4 B_X6_sing
set_option maxRecDepth 20000 in
theorem ok_X6_sing : MOkI yX6_sing cX6_sing 4 .int rm_X6_sing m_X6_sing := by
  unfold m_X6_sing
  refine MOkI_mk0 (pe := 49) (by decide +kernel) (by decide) (by decide) ⟨rfl, rfl⟩ (fun Rt G hG => ?_)
  have hG : Mach RX6 cX6_sing 4 "sing" rm_X6_sing (some .int) 3 0 (fun _ => 0) Rt G := hG
  unfold B_X6_sing
  exact S_seq hG (p1 := 23) (S_if1 hG (p1 := 20) (p2 := 23) (C_or hG (p1 := 10) (C_not hG (C_ne_F0 hG (p1 := 7) (tgt := 20) (I_callS hG (p2 := 4) ok_X6_areTicks ckX6_116 ⟨rfl, rfl⟩ ⟨by decide, by decide⟩ (by decide) (A_int hG (p1 := 1) (I_iload_n hG dX6_sing_0 rfl (by decide)) (A_int hG (p1 := 2) (I_iload_n hG dX6_sing_1 rfl (by decide)) (A_int hG (p1 := 4) (I_bipush hG dX6_sing_2 (by decide) ⟨by decide, by decide⟩) (A_nil hG)))) dX6_sing_4) dX6_sing_7 (by decide))) (C_not hG (C_ne_T0 hG (p1 := 17) (tgt := 23) (I_callS hG (p2 := 14) ok_X6_isWithin ckX6_54 ⟨rfl, rfl⟩ ⟨by decide, by decide⟩ (by decide) (A_int hG (p1 := 11) (I_iload_n hG dX6_sing_10 rfl (by decide)) (A_int hG (p1 := 12) (I_iconst hG dX6_sing_11 (by decide) ⟨by decide, by decide⟩) (A_int hG (p1 := 14) (I_bipush hG dX6_sing_12 (by decide) ⟨by decide, by decide⟩) (A_nil hG)))) dX6_sing_14) dX6_sing_17 (by decide)))) (S_ret hG (p1 := 22) rfl rfl (I_bipush hG dX6_sing_20 (by decide) ⟨by decide, by decide⟩) dX6_sing_22)) (S_seq hG (p1 := 34) (S_callV hG (p1 := 27) (p2 := 31) ok_X0_record ckX6_68 ⟨rfl, rfl⟩ (by decide) rfl ⟨by decide, by decide⟩ (R_getf hG foX6_29 (p1 := 24) (R_aload_n hG dX6_sing_23 rfl (by decide)) dX6_sing_24) (A_ref hG (p1 := 31) (R_getf hG foX6_10 (p1 := 28) (R_aload_n hG dX6_sing_27 rfl (by decide)) dX6_sing_28) (A_nil hG)) dX6_sing_31) (S_seq hG (p1 := 44) (S_callV hG (p1 := 38) (p2 := 41) ok_X4_voice ckX6_119 ⟨rfl, rfl⟩ (by decide) rfl ⟨by decide, by decide⟩ (R_getf hG foX6_10 (p1 := 35) (R_aload_n hG dX6_sing_34 rfl (by decide)) dX6_sing_35) (A_int hG (p1 := 39) (I_iload_n hG dX6_sing_38 rfl (by decide)) (A_int hG (p1 := 40) (I_iload_n hG dX6_sing_39 rfl (by decide)) (A_int hG (p1 := 41) (I_iload_n hG dX6_sing_40 rfl (by decide)) (A_nil hG)))) dX6_sing_41) (S_ret hG (p1 := 48) rfl rfl (I_callV hG (p1 := 45) (p2 := 45) ok_X6_hitsNow ckX6_123 ⟨rfl, rfl⟩ (by decide) rfl ⟨by decide, by decide⟩ (by decide) (R_aload_n hG dX6_sing_44 rfl (by decide)) (A_nil hG) dX6_sing_45) dX6_sing_48)))
abbrev rm_X4_soundingTicks : Room := { frames := 1, cells := 0, slots := 0, locals := 21 }
def B_X4_soundingTicks : ST := sSeq (sLoc 1 (iC 0)) (sSeq (sSeq (sLoc 2 (iC 0)) (sWhile (cLt (iL 2) (iC 600)) (sSeq (sIf1 (cNe (iCallV 4 m_X4_sungAt (rL 0) (aI (iL 2) (aN))) (iC (-1))) (sInc 1 1)) (sInc 2 1)))) (sRet false (iL 1)))
def m_X4_soundingTicks : Mt := mk0 1 B_X4_soundingTicks
set_option maxRecDepth 20000 in
theorem ok_X4_soundingTicks : MOkI yX4_soundingTicks cX4_soundingTicks 3 .int rm_X4_soundingTicks m_X4_soundingTicks := by
  unfold m_X4_soundingTicks
  refine MOkI_mk0 (pe := 31) (by decide +kernel) (by decide) (by decide) ⟨rfl, rfl⟩ (fun Rt G hG => ?_)
  have hG : Mach RX4 cX4_soundingTicks 3 "soundingTicks" rm_X4_soundingTicks (some .int) 3 0 (fun _ => 0) Rt G := hG
  unfold B_X4_soundingTicks
  exact S_seq hG (p1 := 2) (S_istore_n hG (p1 := 1) (I_iconst hG dX4_soundingTicks_0 (by decide) ⟨by decide, by decide⟩) dX4_soundingTicks_1 rfl (by decide)) (S_seq hG (p1 := 29) (S_seq hG (p1 := 4) (S_istore_n hG (p1 := 3) (I_iconst hG dX4_soundingTicks_2 (by decide) ⟨by decide, by decide⟩) dX4_soundingTicks_3 rfl (by decide)) (S_while hG (p1 := 11) (p2 := 29) (C_lt_F hG (p1 := 5) (p2 := 8) (tgt := 29) (I_iload_n hG dX4_soundingTicks_4 rfl (by decide)) (I_sipush hG dX4_soundingTicks_5 (by decide) ⟨by decide, by decide⟩) dX4_soundingTicks_8 (by decide)) (S_seq hG (p1 := 23) (S_if1 hG (p1 := 20) (p2 := 23) (C_ne_F hG (p1 := 16) (p2 := 17) (tgt := 23) (I_callV hG (p1 := 12) (p2 := 13) ok_X4_sungAt ckX4_57 ⟨rfl, rfl⟩ (by decide) rfl ⟨by decide, by decide⟩ (by decide) (R_aload_n hG dX4_soundingTicks_11 rfl (by decide)) (A_int hG (p1 := 13) (I_iload_n hG dX4_soundingTicks_12 rfl (by decide)) (A_nil hG)) dX4_soundingTicks_13) (I_iconst hG dX4_soundingTicks_16 (by decide) ⟨by decide, by decide⟩) dX4_soundingTicks_17 (by decide)) (S_iinc hG dX4_soundingTicks_20 (by decide))) (S_goto hG (p2 := 4) (S_iinc hG dX4_soundingTicks_23 (by decide)) dX4_soundingTicks_26 (by decide))))) (S_ret hG (p1 := 30) rfl rfl (I_iload_n hG dX4_soundingTicks_29 rfl (by decide)) dX4_soundingTicks_30))
abbrev rm_X6_silence : Room := { frames := 4, cells := 0, slots := 0, locals := 81 }
def B_X6_silence : ST := sSeq (sIf1 (cNot (cNe (iCallS m_X6_areTicks (aI (iL 1) (aI (iL 2) (aI (iC 600) (aN))))) (iC 0))) (sRet false (iC (-2)))) (sSeq (sCallV 0 m_X0_record (rF 6 4 (rL 0)) (aR (rF 6 0 (rL 0)) (aN))) (sSeq (sLoc 3 (iCallV 4 m_X4_soundingTicks (rF 6 0 (rL 0)) (aN))) (sSeq (sCallV 4 m_X4_voice (rF 6 0 (rL 0)) (aI (iL 1) (aI (iL 2) (aI (iC (-1)) (aN))))) (sRet false (iSub (iL 3) (iCallV 4 m_X4_soundingTicks (rF 6 0 (rL 0)) (aN)))))))
def m_X6_silence : Mt := mk0 3 B_X6_silence
set_option maxRecDepth 20000 in
theorem ok_X6_silence : MOkI yX6_silence cX6_silence 4 .int rm_X6_silence m_X6_silence := by
  unfold m_X6_silence
  refine MOkI_mk0 (pe := 53) (by decide +kernel) (by decide) (by decide) ⟨rfl, rfl⟩ (fun Rt G hG => ?_)
  have hG : Mach RX6 cX6_silence 4 "silence" rm_X6_silence (some .int) 3 0 (fun _ => 0) Rt G := hG
  unfold B_X6_silence
  exact S_seq hG (p1 := 14) (S_if1 hG (p1 := 11) (p2 := 14) (C_not hG (C_ne_T0 hG (p1 := 8) (tgt := 14) (I_callS hG (p2 := 5) ok_X6_areTicks ckX6_116 ⟨rfl, rfl⟩ ⟨by decide, by decide⟩ (by decide) (A_int hG (p1 := 1) (I_iload_n hG dX6_silence_0 rfl (by decide)) (A_int hG (p1 := 2) (I_iload_n hG dX6_silence_1 rfl (by decide)) (A_int hG (p1 := 5) (I_sipush hG dX6_silence_2 (by decide) ⟨by decide, by decide⟩) (A_nil hG)))) dX6_silence_5) dX6_silence_8 (by decide))) (S_ret hG (p1 := 13) rfl rfl (I_bipush hG dX6_silence_11 (by decide) ⟨by decide, by decide⟩) dX6_silence_13)) (S_seq hG (p1 := 25) (S_callV hG (p1 := 18) (p2 := 22) ok_X0_record ckX6_68 ⟨rfl, rfl⟩ (by decide) rfl ⟨by decide, by decide⟩ (R_getf hG foX6_29 (p1 := 15) (R_aload_n hG dX6_silence_14 rfl (by decide)) dX6_silence_15) (A_ref hG (p1 := 22) (R_getf hG foX6_10 (p1 := 19) (R_aload_n hG dX6_silence_18 rfl (by decide)) dX6_silence_19) (A_nil hG)) dX6_silence_22) (S_seq hG (p1 := 33) (S_istore_n hG (p1 := 32) (I_callV hG (p1 := 29) (p2 := 29) ok_X4_soundingTicks ckX6_126 ⟨rfl, rfl⟩ (by decide) rfl ⟨by decide, by decide⟩ (by decide) (R_getf hG foX6_10 (p1 := 26) (R_aload_n hG dX6_silence_25 rfl (by decide)) dX6_silence_26) (A_nil hG) dX6_silence_29) dX6_silence_32 rfl (by decide)) (S_seq hG (p1 := 43) (S_callV hG (p1 := 37) (p2 := 40) ok_X4_voice ckX6_119 ⟨rfl, rfl⟩ (by decide) rfl ⟨by decide, by decide⟩ (R_getf hG foX6_10 (p1 := 34) (R_aload_n hG dX6_silence_33 rfl (by decide)) dX6_silence_34) (A_int hG (p1 := 38) (I_iload_n hG dX6_silence_37 rfl (by decide)) (A_int hG (p1 := 39) (I_iload_n hG dX6_silence_38 rfl (by decide)) (A_int hG (p1 := 40) (I_iconst hG dX6_silence_39 (by decide) ⟨by decide, by decide⟩) (A_nil hG)))) dX6_silence_40) (S_ret hG (p1 := 52) rfl rfl (I_isub hG (p1 := 44) (p2 := 51) (I_iload_n hG dX6_silence_43 rfl (by decide)) (I_callV hG (p1 := 48) (p2 := 48) ok_X4_soundingTicks ckX6_126 ⟨rfl, rfl⟩ (by decide) rfl ⟨by decide, by decide⟩ (by decide) (R_getf hG foX6_10 (p1 := 45) (R_aload_n hG dX6_silence_44 rfl (by decide)) dX6_silence_45) (A_nil hG) dX6_silence_48) dX6_silence_51) dX6_silence_52))))
abbrev rm_X4_voiceAsWanted : Room := { frames := 3, cells := 0, slots := 0, locals := 66 }
def B_X4_voiceAsWanted : ST := sSeq (sSeq (sLoc 3 (iCallV 3 m_X3_beginningOf (rF 4 0 (rL 0)) (aI (iL 1) (aN)))) (sSeq (sLoc 4 (iC 0)) (sWhile (cLt (iL 4) (iCallV 3 m_X3_lengthOf (rF 4 0 (rL 0)) (aI (iL 1) (aN)))) (sSeq (sCallV 4 m_X4_voiceAt (rL 0) (aI (iAdd (iL 3) (iL 4)) (aI (iAdd (iCallV 3 m_X3_wantedOf (rF 4 0 (rL 0)) (aI (iL 1) (aI (iL 4) (aN)))) (iL 2)) (aN)))) (sInc 4 1))))) sRetV
def m_X4_voiceAsWanted : Mt := mk0 3 B_X4_voiceAsWanted
set_option maxRecDepth 20000 in
theorem ok_X4_voiceAsWanted : MOkV yX4_voiceAsWanted cX4_voiceAsWanted 5 rm_X4_voiceAsWanted m_X4_voiceAsWanted := by
  unfold m_X4_voiceAsWanted
  refine MOkV_mk0 (pe := 52) (by decide +kernel) (by decide) (by decide) ⟨rfl, rfl⟩ (fun Rt G hG => ?_)
  have hG : Mach RX4 cX4_voiceAsWanted 5 "voiceAsWanted" rm_X4_voiceAsWanted none 3 0 (fun _ => 0) Rt G := hG
  unfold B_X4_voiceAsWanted
  exact S_seq hG (p1 := 51) (S_seq hG (p1 := 9) (S_istore_n hG (p1 := 8) (I_callV hG (p1 := 4) (p2 := 5) ok_X3_beginningOf ckX4_46 ⟨rfl, rfl⟩ (by decide) rfl ⟨by decide, by decide⟩ (by decide) (R_getf hG foX4_12 (p1 := 1) (R_aload_n hG dX4_voiceAsWanted_0 rfl (by decide)) dX4_voiceAsWanted_1) (A_int hG (p1 := 5) (I_iload_n hG dX4_voiceAsWanted_4 rfl (by decide)) (A_nil hG)) dX4_voiceAsWanted_5) dX4_voiceAsWanted_8 rfl (by decide)) (S_seq hG (p1 := 12) (S_istore hG (p1 := 10) (I_iconst hG dX4_voiceAsWanted_9 (by decide) ⟨by decide, by decide⟩) dX4_voiceAsWanted_10 (by decide)) (S_while hG (p1 := 25) (p2 := 51) (C_lt_F hG (p1 := 14) (p2 := 22) (tgt := 51) (I_iload hG dX4_voiceAsWanted_12 (by decide)) (I_callV hG (p1 := 18) (p2 := 19) ok_X3_lengthOf ckX4_50 ⟨rfl, rfl⟩ (by decide) rfl ⟨by decide, by decide⟩ (by decide) (R_getf hG foX4_12 (p1 := 15) (R_aload_n hG dX4_voiceAsWanted_14 rfl (by decide)) dX4_voiceAsWanted_15) (A_int hG (p1 := 19) (I_iload_n hG dX4_voiceAsWanted_18 rfl (by decide)) (A_nil hG)) dX4_voiceAsWanted_19) dX4_voiceAsWanted_22 (by decide)) (S_seq hG (p1 := 45) (S_callV hG (p1 := 26) (p2 := 42) ok_X4_voiceAt ckX4_42 ⟨rfl, rfl⟩ (by decide) rfl ⟨by decide, by decide⟩ (R_aload_n hG dX4_voiceAsWanted_25 rfl (by decide)) (A_int hG (p1 := 30) (I_iadd hG (p1 := 27) (p2 := 29) (I_iload_n hG dX4_voiceAsWanted_26 rfl (by decide)) (I_iload hG dX4_voiceAsWanted_27 (by decide)) dX4_voiceAsWanted_29) (A_int hG (p1 := 42) (I_iadd hG (p1 := 40) (p2 := 41) (I_callV hG (p1 := 34) (p2 := 37) ok_X3_wantedOf ckX4_53 ⟨rfl, rfl⟩ (by decide) rfl ⟨by decide, by decide⟩ (by decide) (R_getf hG foX4_12 (p1 := 31) (R_aload_n hG dX4_voiceAsWanted_30 rfl (by decide)) dX4_voiceAsWanted_31) (A_int hG (p1 := 35) (I_iload_n hG dX4_voiceAsWanted_34 rfl (by decide)) (A_int hG (p1 := 37) (I_iload hG dX4_voiceAsWanted_35 (by decide)) (A_nil hG))) dX4_voiceAsWanted_37) (I_iload_n hG dX4_voiceAsWanted_40 rfl (by decide)) dX4_voiceAsWanted_41) (A_nil hG))) dX4_voiceAsWanted_42) (S_goto hG (p2 := 12) (S_iinc hG dX4_voiceAsWanted_45 (by decide)) dX4_voiceAsWanted_48 (by decide)))))) (S_retV hG rfl dX4_voiceAsWanted_51)
abbrev rm_X6_singAlong : Room := { frames := 6, cells := 0, slots := 0, locals := 141 }
def B_X6_singAlong : ST := sSeq (sIf1 (cOr (cNot (cNe (iCallV 3 m_X3_has (rF 4 0 (rF 6 0 (rL 0))) (aI (iL 1) (aN))) (iC 0))) (cNot (cNe (iCallV 3 m_X3_has (rF 4 0 (rF 6 0 (rL 0))) (aI (iL 2) (aN))) (iC 0)))) (sRet false (iC (-1)))) (sSeq (sIf1 (cOr (cLt (iL 2) (iL 1)) (cNot (cNe (iCallS m_X6_isWithin (aI (iL 3) (aI (iC (-60)) (aI (iC 60) (aN))))) (iC 0)))) (sRet false (iC (-2)))) (sSeq (sCallV 0 m_X0_record (rF 6 4 (rL 0)) (aR (rF 6 0 (rL 0)) (aN))) (sSeq (sSeq (sLoc 4 (iL 1)) (sWhile (cLe (iL 4) (iL 2)) (sSeq (sCallV 4 m_X4_voiceAsWanted (rF 6 0 (rL 0)) (aI (iL 4) (aI (iL 3) (aN)))) (sInc 4 1)))) (sRet false (iCallV 6 m_X6_hitsNow (rL 0) (aN))))))
def m_X6_singAlong : Mt := mk0 4 B_X6_singAlong
set_option maxRecDepth 20000 in
theorem ok_X6_singAlong : MOkI yX6_singAlong cX6_singAlong 5 .int rm_X6_singAlong m_X6_singAlong := by
  unfold m_X6_singAlong
  refine MOkI_mk0 (pe := 90) (by decide +kernel) (by decide) (by decide) ⟨rfl, rfl⟩ (fun Rt G hG => ?_)
  have hG : Mach RX6 cX6_singAlong 5 "singAlong" rm_X6_singAlong (some .int) 3 0 (fun _ => 0) Rt G := hG
  unfold B_X6_singAlong
  exact S_seq hG (p1 := 30) (S_if1 hG (p1 := 28) (p2 := 30) (C_or hG (p1 := 14) (C_not hG (C_ne_F0 hG (p1 := 11) (tgt := 28) (I_callV hG (p1 := 7) (p2 := 8) ok_X3_has ckX6_129 ⟨rfl, rfl⟩ (by decide) rfl ⟨by decide, by decide⟩ (by decide) (R_getf hG foX6_58 (p1 := 4) (R_getf hG foX6_10 (p1 := 1) (R_aload_n hG dX6_singAlong_0 rfl (by decide)) dX6_singAlong_1) dX6_singAlong_4) (A_int hG (p1 := 8) (I_iload_n hG dX6_singAlong_7 rfl (by decide)) (A_nil hG)) dX6_singAlong_8) dX6_singAlong_11 (by decide))) (C_not hG (C_ne_T0 hG (p1 := 25) (tgt := 30) (I_callV hG (p1 := 21) (p2 := 22) ok_X3_has ckX6_129 ⟨rfl, rfl⟩ (by decide) rfl ⟨by decide, by decide⟩ (by decide) (R_getf hG foX6_58 (p1 := 18) (R_getf hG foX6_10 (p1 := 15) (R_aload_n hG dX6_singAlong_14 rfl (by decide)) dX6_singAlong_15) dX6_singAlong_18) (A_int hG (p1 := 22) (I_iload_n hG dX6_singAlong_21 rfl (by decide)) (A_nil hG)) dX6_singAlong_22) dX6_singAlong_25 (by decide)))) (S_ret hG (p1 := 29) rfl rfl (I_iconst hG dX6_singAlong_28 (by decide) ⟨by decide, by decide⟩) dX6_singAlong_29)) (S_seq hG (p1 := 49) (S_if1 hG (p1 := 46) (p2 := 49) (C_or hG (p1 := 35) (C_lt_T hG (p1 := 31) (p2 := 32) (tgt := 46) (I_iload_n hG dX6_singAlong_30 rfl (by decide)) (I_iload_n hG dX6_singAlong_31 rfl (by decide)) dX6_singAlong_32 (by decide)) (C_not hG (C_ne_T0 hG (p1 := 43) (tgt := 49) (I_callS hG (p2 := 40) ok_X6_isWithin ckX6_54 ⟨rfl, rfl⟩ ⟨by decide, by decide⟩ (by decide) (A_int hG (p1 := 36) (I_iload_n hG dX6_singAlong_35 rfl (by decide)) (A_int hG (p1 := 38) (I_bipush hG dX6_singAlong_36 (by decide) ⟨by decide, by decide⟩) (A_int hG (p1 := 40) (I_bipush hG dX6_singAlong_38 (by decide) ⟨by decide, by decide⟩) (A_nil hG)))) dX6_singAlong_40) dX6_singAlong_43 (by decide)))) (S_ret hG (p1 := 48) rfl rfl (I_bipush hG dX6_singAlong_46 (by decide) ⟨by decide, by decide⟩) dX6_singAlong_48)) (S_seq hG (p1 := 60) (S_callV hG (p1 := 53) (p2 := 57) ok_X0_record ckX6_68 ⟨rfl, rfl⟩ (by decide) rfl ⟨by decide, by decide⟩ (R_getf hG foX6_29 (p1 := 50) (R_aload_n hG dX6_singAlong_49 rfl (by decide)) dX6_singAlong_50) (A_ref hG (p1 := 57) (R_getf hG foX6_10 (p1 := 54) (R_aload_n hG dX6_singAlong_53 rfl (by decide)) dX6_singAlong_54) (A_nil hG)) dX6_singAlong_57) (S_seq hG (p1 := 85) (S_seq hG (p1 := 63) (S_istore hG (p1 := 61) (I_iload_n hG dX6_singAlong_60 rfl (by decide)) dX6_singAlong_61 (by decide)) (S_while hG (p1 := 69) (p2 := 85) (C_le_F hG (p1 := 65) (p2 := 66) (tgt := 85) (I_iload hG dX6_singAlong_63 (by decide)) (I_iload_n hG dX6_singAlong_65 rfl (by decide)) dX6_singAlong_66 (by decide)) (S_seq hG (p1 := 79) (S_callV hG (p1 := 73) (p2 := 76) ok_X4_voiceAsWanted ckX6_132 ⟨rfl, rfl⟩ (by decide) rfl ⟨by decide, by decide⟩ (R_getf hG foX6_10 (p1 := 70) (R_aload_n hG dX6_singAlong_69 rfl (by decide)) dX6_singAlong_70) (A_int hG (p1 := 75) (I_iload hG dX6_singAlong_73 (by decide)) (A_int hG (p1 := 76) (I_iload_n hG dX6_singAlong_75 rfl (by decide)) (A_nil hG))) dX6_singAlong_76) (S_goto hG (p2 := 63) (S_iinc hG dX6_singAlong_79 (by decide)) dX6_singAlong_82 (by decide))))) (S_ret hG (p1 := 89) rfl rfl (I_callV hG (p1 := 86) (p2 := 86) ok_X6_hitsNow ckX6_123 ⟨rfl, rfl⟩ (by decide) rfl ⟨by decide, by decide⟩ (by decide) (R_aload_n hG dX6_singAlong_85 rfl (by decide)) (A_nil hG) dX6_singAlong_86) dX6_singAlong_89))))
abbrev rm_X0_size : Room := { frames := 0, cells := 0, slots := 0, locals := 0 }
def B_X0_size : ST := sRet false (iF 0 1 (rL 0))
def m_X0_size : Mt := mk0 1 B_X0_size
set_option maxRecDepth 20000 in
theorem ok_X0_size : MOkI yX0_size cX0_size 1 .int rm_X0_size m_X0_size := by
  unfold m_X0_size
  refine MOkI_mk0 (pe := 5) (by decide +kernel) (by decide) (by decide) ⟨rfl, rfl⟩ (fun Rt G hG => ?_)
  have hG : Mach RX0 cX0_size 1 "size" rm_X0_size (some .int) 3 0 (fun _ => 0) Rt G := hG
  unfold B_X0_size
  exact S_ret hG (p1 := 4) rfl rfl (I_getf hG foX0_17 (p1 := 1) (R_aload_n hG dX0_size_0 rfl (by decide)) dX0_size_1) dX0_size_4
abbrev rm_X0_takeBackInto : Room := { frames := 3, cells := 0, slots := 0, locals := 60 }
def B_X0_takeBackInto : ST := sSeq (sIf1 (cAnd (cNe (iCallS m_X6_isWithin (aI (iF 0 1 (rL 0)) (aI (iC 1) (aI (iC 4) (aN))))) (iC 0)) (cNot (cNull (rA (rF 0 0 (rL 0)) (iSub (iF 0 1 (rL 0)) (iC 1)))))) (sSeq (sPutSub 0 1 (rL 0) (iC 1)) (sCallV 4 m_X4_copyFrom (rL 1) (aR (rA (rF 0 0 (rL 0)) (iF 0 1 (rL 0))) (aN))))) (sRet false (iF 0 1 (rL 0)))
def m_X0_takeBackInto : Mt := mk0 2 B_X0_takeBackInto
set_option maxRecDepth 20000 in
theorem ok_X0_takeBackInto : MOkI yX0_takeBackInto cX0_takeBackInto 2 .int rm_X0_takeBackInto m_X0_takeBackInto := by
  unfold m_X0_takeBackInto
  refine MOkI_mk0 (pe := 54) (by decide +kernel) (by decide) (by decide) ⟨rfl, rfl⟩ (fun Rt G hG => ?_)
  have hG : Mach RX0 cX0_takeBackInto 2 "takeBackInto" rm_X0_takeBackInto (some .int) 3 0 (fun _ => 0) Rt G := hG
  unfold B_X0_takeBackInto
  exact S_seq hG (p1 := 49) (S_if1 hG (p1 := 26) (p2 := 49) (C_and hG (p1 := 12) (C_ne_F0 hG (p1 := 9) (tgt := 49) (I_callN hG (p2 := 6) ok_X6_isWithin ckX0_25 ⟨rfl, rfl⟩ ⟨by decide, by decide⟩ (by decide) (A_int hG (p1 := 4) (I_getf hG foX0_17 (p1 := 1) (R_aload_n hG dX0_takeBackInto_0 rfl (by decide)) dX0_takeBackInto_1) (A_int hG (p1 := 5) (I_iconst hG dX0_takeBackInto_4 (by decide) ⟨by decide, by decide⟩) (A_int hG (p1 := 6) (I_iconst hG dX0_takeBackInto_5 (by decide) ⟨by decide, by decide⟩) (A_nil hG)))) dX0_takeBackInto_6) dX0_takeBackInto_9 (by decide)) (C_not hG (C_null hG (p1 := 23) (tgt := 49) (R_aald hG (p1 := 16) (p2 := 22) (R_getf hG foX0_11 (p1 := 13) (R_aload_n hG dX0_takeBackInto_12 rfl (by decide)) dX0_takeBackInto_13) (I_isub hG (p1 := 20) (p2 := 21) (I_getf hG foX0_17 (p1 := 17) (R_aload_n hG dX0_takeBackInto_16 rfl (by decide)) dX0_takeBackInto_17) (I_iconst hG dX0_takeBackInto_20 (by decide) ⟨by decide, by decide⟩) dX0_takeBackInto_21) dX0_takeBackInto_22) dX0_takeBackInto_23 (by decide)))) (S_seq hG (p1 := 36) (S_putSub hG foX0_17 poX0_17 (p1 := 27) (p2 := 32) (R_aload_n hG dX0_takeBackInto_26 rfl (by decide)) dX0_takeBackInto_27 dX0_takeBackInto_28 (I_iconst hG dX0_takeBackInto_31 (by decide) ⟨by decide, by decide⟩) dX0_takeBackInto_32 dX0_takeBackInto_33) (S_callV hG (p1 := 37) (p2 := 46) ok_X4_copyFrom ckX0_29 ⟨rfl, rfl⟩ (by decide) rfl ⟨by decide, by decide⟩ (R_aload_n hG dX0_takeBackInto_36 rfl (by decide)) (A_ref hG (p1 := 46) (R_aald hG (p1 := 41) (p2 := 45) (R_getf hG foX0_11 (p1 := 38) (R_aload_n hG dX0_takeBackInto_37 rfl (by decide)) dX0_takeBackInto_38) (I_getf hG foX0_17 (p1 := 42) (R_aload_n hG dX0_takeBackInto_41 rfl (by decide)) dX0_takeBackInto_42) dX0_takeBackInto_45) (A_nil hG)) dX0_takeBackInto_46))) (S_ret hG (p1 := 53) rfl rfl (I_getf hG foX0_17 (p1 := 50) (R_aload_n hG dX0_takeBackInto_49 rfl (by decide)) dX0_takeBackInto_50) dX0_takeBackInto_53)
abbrev rm_X6_undo : Room := { frames := 4, cells := 0, slots := 0, locals := 81 }
def B_X6_undo : ST := sSeq (sIf1 (cEq (iCallV 0 m_X0_size (rF 6 4 (rL 0)) (aN)) (iC 0)) (sRet false (iC (-5)))) (sRet false (iCallV 0 m_X0_takeBackInto (rF 6 4 (rL 0)) (aR (rF 6 0 (rL 0)) (aN))))
def m_X6_undo : Mt := mk0 1 B_X6_undo
set_option maxRecDepth 20000 in
theorem ok_X6_undo : MOkI yX6_undo cX6_undo 1 .int rm_X6_undo m_X6_undo := by
  unfold m_X6_undo
  refine MOkI_mk0 (pe := 25) (by decide +kernel) (by decide) (by decide) ⟨rfl, rfl⟩ (fun Rt G hG => ?_)
  have hG : Mach RX6 cX6_undo 1 "undo" rm_X6_undo (some .int) 3 0 (fun _ => 0) Rt G := hG
  unfold B_X6_undo
  exact S_seq hG (p1 := 13) (S_if1 hG (p1 := 10) (p2 := 13) (C_eq_F0 hG (p1 := 7) (tgt := 13) (I_callV hG (p1 := 4) (p2 := 4) ok_X0_size ckX6_145 ⟨rfl, rfl⟩ (by decide) rfl ⟨by decide, by decide⟩ (by decide) (R_getf hG foX6_29 (p1 := 1) (R_aload_n hG dX6_undo_0 rfl (by decide)) dX6_undo_1) (A_nil hG) dX6_undo_4) dX6_undo_7 (by decide)) (S_ret hG (p1 := 12) rfl rfl (I_bipush hG dX6_undo_10 (by decide) ⟨by decide, by decide⟩) dX6_undo_12)) (S_ret hG (p1 := 24) rfl rfl (I_callV hG (p1 := 17) (p2 := 21) ok_X0_takeBackInto ckX6_146 ⟨rfl, rfl⟩ (by decide) rfl ⟨by decide, by decide⟩ (by decide) (R_getf hG foX6_29 (p1 := 14) (R_aload_n hG dX6_undo_13 rfl (by decide)) dX6_undo_14) (A_ref hG (p1 := 21) (R_getf hG foX6_10 (p1 := 18) (R_aload_n hG dX6_undo_17 rfl (by decide)) dX6_undo_18) (A_nil hG)) dX6_undo_21) dX6_undo_24)
abbrev rm_X3_barLinesOf : Room := { frames := 2, cells := 0, slots := 0, locals := 42 }
def B_X3_barLinesOf : ST := sSeq (sIf1 (cLt (iL 2) (iC 1)) (sRet false (iC 0))) (sSeq (sLoc 3 (iCallV 3 m_X3_beginningOf (rL 0) (aI (iL 1) (aN)))) (sSeq (sLoc 4 (iSub (iAdd (iL 3) (iCallV 3 m_X3_lengthOf (rL 0) (aI (iL 1) (aN)))) (iC 1))) (sRet false (iSub (iDiv (iL 4) (iL 2)) (iDiv (iL 3) (iL 2))))))
def m_X3_barLinesOf : Mt := mk0 3 B_X3_barLinesOf
set_option maxRecDepth 20000 in
theorem ok_X3_barLinesOf : MOkI yX3_barLinesOf cX3_barLinesOf 5 .int rm_X3_barLinesOf m_X3_barLinesOf := by
  unfold m_X3_barLinesOf
  refine MOkI_mk0 (pe := 33) (by decide +kernel) (by decide) (by decide) ⟨rfl, rfl⟩ (fun Rt G hG => ?_)
  have hG : Mach RX3 cX3_barLinesOf 5 "barLinesOf" rm_X3_barLinesOf (some .int) 3 0 (fun _ => 0) Rt G := hG
  unfold B_X3_barLinesOf
  exact S_seq hG (p1 := 7) (S_if1 hG (p1 := 5) (p2 := 7) (C_lt_F hG (p1 := 1) (p2 := 2) (tgt := 7) (I_iload_n hG dX3_barLinesOf_0 rfl (by decide)) (I_iconst hG dX3_barLinesOf_1 (by decide) ⟨by decide, by decide⟩) dX3_barLinesOf_2 (by decide)) (S_ret hG (p1 := 6) rfl rfl (I_iconst hG dX3_barLinesOf_5 (by decide) ⟨by decide, by decide⟩) dX3_barLinesOf_6)) (S_seq hG (p1 := 13) (S_istore_n hG (p1 := 12) (I_callV hG (p1 := 8) (p2 := 9) ok_X3_beginningOf ckX3_35 ⟨rfl, rfl⟩ (by decide) rfl ⟨by decide, by decide⟩ (by decide) (R_aload_n hG dX3_barLinesOf_7 rfl (by decide)) (A_int hG (p1 := 9) (I_iload_n hG dX3_barLinesOf_8 rfl (by decide)) (A_nil hG)) dX3_barLinesOf_9) dX3_barLinesOf_12 rfl (by decide)) (S_seq hG (p1 := 24) (S_istore hG (p1 := 22) (I_isub hG (p1 := 20) (p2 := 21) (I_iadd hG (p1 := 14) (p2 := 19) (I_iload_n hG dX3_barLinesOf_13 rfl (by decide)) (I_callV hG (p1 := 15) (p2 := 16) ok_X3_lengthOf ckX3_39 ⟨rfl, rfl⟩ (by decide) rfl ⟨by decide, by decide⟩ (by decide) (R_aload_n hG dX3_barLinesOf_14 rfl (by decide)) (A_int hG (p1 := 16) (I_iload_n hG dX3_barLinesOf_15 rfl (by decide)) (A_nil hG)) dX3_barLinesOf_16) dX3_barLinesOf_19) (I_iconst hG dX3_barLinesOf_20 (by decide) ⟨by decide, by decide⟩) dX3_barLinesOf_21) dX3_barLinesOf_22 (by decide)) (S_ret hG (p1 := 32) rfl rfl (I_isub hG (p1 := 28) (p2 := 31) (I_idiv hG (p1 := 26) (p2 := 27) (I_iload hG dX3_barLinesOf_24 (by decide)) (I_iload_n hG dX3_barLinesOf_26 rfl (by decide)) dX3_barLinesOf_27) (I_idiv hG (p1 := 29) (p2 := 30) (I_iload_n hG dX3_barLinesOf_28 rfl (by decide)) (I_iload_n hG dX3_barLinesOf_29 rfl (by decide)) dX3_barLinesOf_30) dX3_barLinesOf_31) dX3_barLinesOf_32)))
abbrev rm_X1_reasonOf : Room := { frames := 1, cells := 0, slots := 0, locals := 21 }
def B_X1_reasonOf : ST := sRet false (iCallS m_X1_valueIn (aR (rF 1 4 (rL 0)) (aI (iL 1) (aN))))
def m_X1_reasonOf : Mt := mk0 2 B_X1_reasonOf
set_option maxRecDepth 20000 in
theorem ok_X1_reasonOf : MOkI yX1_reasonOf cX1_reasonOf 2 .int rm_X1_reasonOf m_X1_reasonOf := by
  unfold m_X1_reasonOf
  refine MOkI_mk0 (pe := 9) (by decide +kernel) (by decide) (by decide) ⟨rfl, rfl⟩ (fun Rt G hG => ?_)
  have hG : Mach RX1 cX1_reasonOf 2 "reasonOf" rm_X1_reasonOf (some .int) 3 0 (fun _ => 0) Rt G := hG
  unfold B_X1_reasonOf
  exact S_ret hG (p1 := 8) rfl rfl (I_callS hG (p2 := 5) ok_X1_valueIn ckX1_151 ⟨rfl, rfl⟩ ⟨by decide, by decide⟩ (by decide) (A_ref hG (p1 := 4) (R_getf hG foX1_24 (p1 := 1) (R_aload_n hG dX1_reasonOf_0 rfl (by decide)) dX1_reasonOf_1) (A_int hG (p1 := 5) (I_iload_n hG dX1_reasonOf_4 rfl (by decide)) (A_nil hG))) dX1_reasonOf_5) dX1_reasonOf_8
abbrev rm_X1_pointsOf : Room := { frames := 1, cells := 0, slots := 0, locals := 21 }
def B_X1_pointsOf : ST := sRet false (iCallS m_X1_valueIn (aR (rF 1 6 (rL 0)) (aI (iL 1) (aN))))
def m_X1_pointsOf : Mt := mk0 2 B_X1_pointsOf
set_option maxRecDepth 20000 in
theorem ok_X1_pointsOf : MOkI yX1_pointsOf cX1_pointsOf 2 .int rm_X1_pointsOf m_X1_pointsOf := by
  unfold m_X1_pointsOf
  refine MOkI_mk0 (pe := 9) (by decide +kernel) (by decide) (by decide) ⟨rfl, rfl⟩ (fun Rt G hG => ?_)
  have hG : Mach RX1 cX1_pointsOf 2 "pointsOf" rm_X1_pointsOf (some .int) 3 0 (fun _ => 0) Rt G := hG
  unfold B_X1_pointsOf
  exact S_ret hG (p1 := 8) rfl rfl (I_callS hG (p2 := 5) ok_X1_valueIn ckX1_151 ⟨rfl, rfl⟩ ⟨by decide, by decide⟩ (by decide) (A_ref hG (p1 := 4) (R_getf hG foX1_30 (p1 := 1) (R_aload_n hG dX1_pointsOf_0 rfl (by decide)) dX1_pointsOf_1) (A_int hG (p1 := 5) (I_iload_n hG dX1_pointsOf_4 rfl (by decide)) (A_nil hG))) dX1_pointsOf_5) dX1_pointsOf_8
abbrev rm_X1_rowAheadOf : Room := { frames := 1, cells := 0, slots := 0, locals := 21 }
def B_X1_rowAheadOf : ST := sRet false (iCallS m_X1_valueIn (aR (rF 1 5 (rL 0)) (aI (iL 1) (aN))))
def m_X1_rowAheadOf : Mt := mk0 2 B_X1_rowAheadOf
set_option maxRecDepth 20000 in
theorem ok_X1_rowAheadOf : MOkI yX1_rowAheadOf cX1_rowAheadOf 2 .int rm_X1_rowAheadOf m_X1_rowAheadOf := by
  unfold m_X1_rowAheadOf
  refine MOkI_mk0 (pe := 9) (by decide +kernel) (by decide) (by decide) ⟨rfl, rfl⟩ (fun Rt G hG => ?_)
  have hG : Mach RX1 cX1_rowAheadOf 2 "rowAheadOf" rm_X1_rowAheadOf (some .int) 3 0 (fun _ => 0) Rt G := hG
  unfold B_X1_rowAheadOf
  exact S_ret hG (p1 := 8) rfl rfl (I_callS hG (p2 := 5) ok_X1_valueIn ckX1_151 ⟨rfl, rfl⟩ ⟨by decide, by decide⟩ (by decide) (A_ref hG (p1 := 4) (R_getf hG foX1_27 (p1 := 1) (R_aload_n hG dX1_rowAheadOf_0 rfl (by decide)) dX1_rowAheadOf_1) (A_int hG (p1 := 5) (I_iload_n hG dX1_rowAheadOf_4 rfl (by decide)) (A_nil hG))) dX1_rowAheadOf_5) dX1_rowAheadOf_8
abbrev rm_X6_syllable : Room := { frames := 5, cells := 0, slots := 0, locals := 121 }
def B_X6_syllable : ST := sSeq (sIf1 (cNot (cNe (iCallV 3 m_X3_has (rF 4 0 (rF 6 0 (rL 0))) (aI (iL 1) (aN))) (iC 0))) (sRet false (iC (-1)))) (sSeq (sIf1 (cNot (cNe (iCallS m_X6_isWithin (aI (iL 2) (aI (iC 0) (aI (iC 11) (aN))))) (iC 0))) (sRet false (iC (-2)))) (sSeq (sCallV 1 m_X1_judge (rF 6 7 (rL 0)) (aR (rF 6 0 (rL 0)) (aN))) (sSw (iL 2) 0 [sRet false (iCallV 3 m_X3_beginningOf (rF 4 0 (rF 6 0 (rL 0))) (aI (iL 1) (aN))), sRet false (iCallV 3 m_X3_lengthOf (rF 4 0 (rF 6 0 (rL 0))) (aI (iL 1) (aN))), sRet false (iCallV 3 m_X3_pitchOf (rF 4 0 (rF 6 0 (rL 0))) (aI (iL 1) (aN))), sRet false (iCallV 3 m_X3_endPitchOf (rF 4 0 (rF 6 0 (rL 0))) (aI (iL 1) (aN))), sRet false (iCallV 3 m_X3_phraseOf (rF 4 0 (rF 6 0 (rL 0))) (aI (iL 1) (aN))), sRet false (iCallV 3 m_X3_barLinesOf (rF 4 0 (rF 6 0 (rL 0))) (aI (iL 1) (aI (iCallV 4 m_X4_setting (rF 6 0 (rL 0)) (aI (iC 0) (aN))) (aN)))), sRet false (iCallV 1 m_X1_matchesOf (rF 6 7 (rL 0)) (aI (iL 1) (aN))), sRet false (iCallV 1 m_X1_shareOf (rF 6 7 (rL 0)) (aI (iL 1) (aN))), sRet false (iCallV 1 m_X1_onsetOf (rF 6 7 (rL 0)) (aI (iL 1) (aN))), sRet false (iCallV 1 m_X1_reasonOf (rF 6 7 (rL 0)) (aI (iL 1) (aN))), sRet false (iCallV 1 m_X1_pointsOf (rF 6 7 (rL 0)) (aI (iL 1) (aN)))] (sRet false (iCallV 1 m_X1_rowAheadOf (rF 6 7 (rL 0)) (aI (iL 1) (aN)))))))
def m_X6_syllable : Mt := mk0 3 B_X6_syllable
set_option maxRecDepth 20000 in
theorem ok_X6_syllable : MOkI yX6_syllable cX6_syllable 3 .int rm_X6_syllable m_X6_syllable := by
  unfold m_X6_syllable
  refine MOkI_mk0 (pe := 234) (by decide +kernel) (by decide) (by decide) ⟨rfl, rfl⟩ (fun Rt G hG => ?_)
  have hG : Mach RX6 cX6_syllable 3 "syllable" rm_X6_syllable (some .int) 3 0 (fun _ => 0) Rt G := hG
  unfold B_X6_syllable
  exact S_seq hG (p1 := 16) (S_if1 hG (p1 := 14) (p2 := 16) (C_not hG (C_ne_T0 hG (p1 := 11) (tgt := 16) (I_callV hG (p1 := 7) (p2 := 8) ok_X3_has ckX6_129 ⟨rfl, rfl⟩ (by decide) rfl ⟨by decide, by decide⟩ (by decide) (R_getf hG foX6_58 (p1 := 4) (R_getf hG foX6_10 (p1 := 1) (R_aload_n hG dX6_syllable_0 rfl (by decide)) dX6_syllable_1) dX6_syllable_4) (A_int hG (p1 := 8) (I_iload_n hG dX6_syllable_7 rfl (by decide)) (A_nil hG)) dX6_syllable_8) dX6_syllable_11 (by decide))) (S_ret hG (p1 := 15) rfl rfl (I_iconst hG dX6_syllable_14 (by decide) ⟨by decide, by decide⟩) dX6_syllable_15)) (S_seq hG (p1 := 29) (S_if1 hG (p1 := 26) (p2 := 29) (C_not hG (C_ne_T0 hG (p1 := 23) (tgt := 29) (I_callS hG (p2 := 20) ok_X6_isWithin ckX6_54 ⟨rfl, rfl⟩ ⟨by decide, by decide⟩ (by decide) (A_int hG (p1 := 17) (I_iload_n hG dX6_syllable_16 rfl (by decide)) (A_int hG (p1 := 18) (I_iconst hG dX6_syllable_17 (by decide) ⟨by decide, by decide⟩) (A_int hG (p1 := 20) (I_bipush hG dX6_syllable_18 (by decide) ⟨by decide, by decide⟩) (A_nil hG)))) dX6_syllable_20) dX6_syllable_23 (by decide))) (S_ret hG (p1 := 28) rfl rfl (I_bipush hG dX6_syllable_26 (by decide) ⟨by decide, by decide⟩) dX6_syllable_28)) (S_seq hG (p1 := 40) (S_callV hG (p1 := 33) (p2 := 37) ok_X1_judge ckX6_152 ⟨rfl, rfl⟩ (by decide) rfl ⟨by decide, by decide⟩ (R_getf hG foX6_50 (p1 := 30) (R_aload_n hG dX6_syllable_29 rfl (by decide)) dX6_syllable_30) (A_ref hG (p1 := 37) (R_getf hG foX6_10 (p1 := 34) (R_aload_n hG dX6_syllable_33 rfl (by decide)) dX6_syllable_34) (A_nil hG)) dX6_syllable_37) (S_sw hG (p1 := 41) (dt := 225) (ts := [100, 112, 124, 136, 148, 160, 180, 189, 198, 207, 216]) (I_iload_n hG dX6_syllable_40 rfl (by decide)) dX6_syllable_41 (by decide) (by decide) rfl ⟨S_ret hG (p1 := 111) rfl rfl (I_callV hG (p1 := 107) (p2 := 108) ok_X3_beginningOf ckX6_154 ⟨rfl, rfl⟩ (by decide) rfl ⟨by decide, by decide⟩ (by decide) (R_getf hG foX6_58 (p1 := 104) (R_getf hG foX6_10 (p1 := 101) (R_aload_n hG dX6_syllable_100 rfl (by decide)) dX6_syllable_101) dX6_syllable_104) (A_int hG (p1 := 108) (I_iload_n hG dX6_syllable_107 rfl (by decide)) (A_nil hG)) dX6_syllable_108) dX6_syllable_111, S_ret hG (p1 := 123) rfl rfl (I_callV hG (p1 := 119) (p2 := 120) ok_X3_lengthOf ckX6_157 ⟨rfl, rfl⟩ (by decide) rfl ⟨by decide, by decide⟩ (by decide) (R_getf hG foX6_58 (p1 := 116) (R_getf hG foX6_10 (p1 := 113) (R_aload_n hG dX6_syllable_112 rfl (by decide)) dX6_syllable_113) dX6_syllable_116) (A_int hG (p1 := 120) (I_iload_n hG dX6_syllable_119 rfl (by decide)) (A_nil hG)) dX6_syllable_120) dX6_syllable_123, S_ret hG (p1 := 135) rfl rfl (I_callV hG (p1 := 131) (p2 := 132) ok_X3_pitchOf ckX6_160 ⟨rfl, rfl⟩ (by decide) rfl ⟨by decide, by decide⟩ (by decide) (R_getf hG foX6_58 (p1 := 128) (R_getf hG foX6_10 (p1 := 125) (R_aload_n hG dX6_syllable_124 rfl (by decide)) dX6_syllable_125) dX6_syllable_128) (A_int hG (p1 := 132) (I_iload_n hG dX6_syllable_131 rfl (by decide)) (A_nil hG)) dX6_syllable_132) dX6_syllable_135, S_ret hG (p1 := 147) rfl rfl (I_callV hG (p1 := 143) (p2 := 144) ok_X3_endPitchOf ckX6_163 ⟨rfl, rfl⟩ (by decide) rfl ⟨by decide, by decide⟩ (by decide) (R_getf hG foX6_58 (p1 := 140) (R_getf hG foX6_10 (p1 := 137) (R_aload_n hG dX6_syllable_136 rfl (by decide)) dX6_syllable_137) dX6_syllable_140) (A_int hG (p1 := 144) (I_iload_n hG dX6_syllable_143 rfl (by decide)) (A_nil hG)) dX6_syllable_144) dX6_syllable_147, S_ret hG (p1 := 159) rfl rfl (I_callV hG (p1 := 155) (p2 := 156) ok_X3_phraseOf ckX6_166 ⟨rfl, rfl⟩ (by decide) rfl ⟨by decide, by decide⟩ (by decide) (R_getf hG foX6_58 (p1 := 152) (R_getf hG foX6_10 (p1 := 149) (R_aload_n hG dX6_syllable_148 rfl (by decide)) dX6_syllable_149) dX6_syllable_152) (A_int hG (p1 := 156) (I_iload_n hG dX6_syllable_155 rfl (by decide)) (A_nil hG)) dX6_syllable_156) dX6_syllable_159, S_ret hG (p1 := 179) rfl rfl (I_callV hG (p1 := 167) (p2 := 176) ok_X3_barLinesOf ckX6_169 ⟨rfl, rfl⟩ (by decide) rfl ⟨by decide, by decide⟩ (by decide) (R_getf hG foX6_58 (p1 := 164) (R_getf hG foX6_10 (p1 := 161) (R_aload_n hG dX6_syllable_160 rfl (by decide)) dX6_syllable_161) dX6_syllable_164) (A_int hG (p1 := 168) (I_iload_n hG dX6_syllable_167 rfl (by decide)) (A_int hG (p1 := 176) (I_callV hG (p1 := 172) (p2 := 173) ok_X4_setting ckX6_108 ⟨rfl, rfl⟩ (by decide) rfl ⟨by decide, by decide⟩ (by decide) (R_getf hG foX6_10 (p1 := 169) (R_aload_n hG dX6_syllable_168 rfl (by decide)) dX6_syllable_169) (A_int hG (p1 := 173) (I_iconst hG dX6_syllable_172 (by decide) ⟨by decide, by decide⟩) (A_nil hG)) dX6_syllable_173) (A_nil hG))) dX6_syllable_176) dX6_syllable_179, S_ret hG (p1 := 188) rfl rfl (I_callV hG (p1 := 184) (p2 := 185) ok_X1_matchesOf ckX6_173 ⟨rfl, rfl⟩ (by decide) rfl ⟨by decide, by decide⟩ (by decide) (R_getf hG foX6_50 (p1 := 181) (R_aload_n hG dX6_syllable_180 rfl (by decide)) dX6_syllable_181) (A_int hG (p1 := 185) (I_iload_n hG dX6_syllable_184 rfl (by decide)) (A_nil hG)) dX6_syllable_185) dX6_syllable_188, S_ret hG (p1 := 197) rfl rfl (I_callV hG (p1 := 193) (p2 := 194) ok_X1_shareOf ckX6_176 ⟨rfl, rfl⟩ (by decide) rfl ⟨by decide, by decide⟩ (by decide) (R_getf hG foX6_50 (p1 := 190) (R_aload_n hG dX6_syllable_189 rfl (by decide)) dX6_syllable_190) (A_int hG (p1 := 194) (I_iload_n hG dX6_syllable_193 rfl (by decide)) (A_nil hG)) dX6_syllable_194) dX6_syllable_197, S_ret hG (p1 := 206) rfl rfl (I_callV hG (p1 := 202) (p2 := 203) ok_X1_onsetOf ckX6_179 ⟨rfl, rfl⟩ (by decide) rfl ⟨by decide, by decide⟩ (by decide) (R_getf hG foX6_50 (p1 := 199) (R_aload_n hG dX6_syllable_198 rfl (by decide)) dX6_syllable_199) (A_int hG (p1 := 203) (I_iload_n hG dX6_syllable_202 rfl (by decide)) (A_nil hG)) dX6_syllable_203) dX6_syllable_206, S_ret hG (p1 := 215) rfl rfl (I_callV hG (p1 := 211) (p2 := 212) ok_X1_reasonOf ckX6_182 ⟨rfl, rfl⟩ (by decide) rfl ⟨by decide, by decide⟩ (by decide) (R_getf hG foX6_50 (p1 := 208) (R_aload_n hG dX6_syllable_207 rfl (by decide)) dX6_syllable_208) (A_int hG (p1 := 212) (I_iload_n hG dX6_syllable_211 rfl (by decide)) (A_nil hG)) dX6_syllable_212) dX6_syllable_215, S_ret hG (p1 := 224) rfl rfl (I_callV hG (p1 := 220) (p2 := 221) ok_X1_pointsOf ckX6_185 ⟨rfl, rfl⟩ (by decide) rfl ⟨by decide, by decide⟩ (by decide) (R_getf hG foX6_50 (p1 := 217) (R_aload_n hG dX6_syllable_216 rfl (by decide)) dX6_syllable_217) (A_int hG (p1 := 221) (I_iload_n hG dX6_syllable_220 rfl (by decide)) (A_nil hG)) dX6_syllable_221) dX6_syllable_224, trivial⟩ (S_ret hG (p1 := 233) rfl rfl (I_callV hG (p1 := 229) (p2 := 230) ok_X1_rowAheadOf ckX6_188 ⟨rfl, rfl⟩ (by decide) rfl ⟨by decide, by decide⟩ (by decide) (R_getf hG foX6_50 (p1 := 226) (R_aload_n hG dX6_syllable_225 rfl (by decide)) dX6_syllable_226) (A_int hG (p1 := 230) (I_iload_n hG dX6_syllable_229 rfl (by decide)) (A_nil hG)) dX6_syllable_230) dX6_syllable_233))))
abbrev rm_X6_wanted : Room := { frames := 3, cells := 0, slots := 0, locals := 66 }
def B_X6_wanted : ST := sSeq (sIf1 (cNot (cNe (iCallS m_X6_isWithin (aI (iL 1) (aI (iC 0) (aI (iC 599) (aN))))) (iC 0))) (sRet false (iC (-2)))) (sSeq (sLocR 2 (rF 4 0 (rF 6 0 (rL 0)))) (sSeq (sSeq (sLoc 3 (iC 0)) (sWhile (cLt (iL 3) (iCallV 3 m_X3_size (rL 2) (aN))) (sSeq (sSeq (sLoc 4 (iSub (iL 1) (iCallV 3 m_X3_beginningOf (rL 2) (aI (iL 3) (aN))))) (sIf1 (cNe (iCallS m_X6_isWithin (aI (iL 4) (aI (iC 0) (aI (iSub (iCallV 3 m_X3_lengthOf (rL 2) (aI (iL 3) (aN))) (iC 1)) (aN))))) (iC 0)) (sRet false (iCallV 3 m_X3_wantedOf (rL 2) (aI (iL 3) (aI (iL 4) (aN))))))) (sInc 3 1)))) (sRet false (iC (-5)))))
def m_X6_wanted : Mt := mk0 2 B_X6_wanted
set_option maxRecDepth 20000 in
theorem ok_X6_wanted : MOkI yX6_wanted cX6_wanted 5 .int rm_X6_wanted m_X6_wanted := by
  unfold m_X6_wanted
  refine MOkI_mk0 (pe := 74) (by decide +kernel) (by decide) (by decide) ⟨rfl, rfl⟩ (fun Rt G hG => ?_)
  have hG : Mach RX6 cX6_wanted 5 "wanted" rm_X6_wanted (some .int) 3 0 (fun _ => 0) Rt G := hG
  unfold B_X6_wanted
  exact S_seq hG (p1 := 14) (S_if1 hG (p1 := 11) (p2 := 14) (C_not hG (C_ne_T0 hG (p1 := 8) (tgt := 14) (I_callS hG (p2 := 5) ok_X6_isWithin ckX6_54 ⟨rfl, rfl⟩ ⟨by decide, by decide⟩ (by decide) (A_int hG (p1 := 1) (I_iload_n hG dX6_wanted_0 rfl (by decide)) (A_int hG (p1 := 2) (I_iconst hG dX6_wanted_1 (by decide) ⟨by decide, by decide⟩) (A_int hG (p1 := 5) (I_sipush hG dX6_wanted_2 (by decide) ⟨by decide, by decide⟩) (A_nil hG)))) dX6_wanted_5) dX6_wanted_8 (by decide))) (S_ret hG (p1 := 13) rfl rfl (I_bipush hG dX6_wanted_11 (by decide) ⟨by decide, by decide⟩) dX6_wanted_13)) (S_seq hG (p1 := 22) (S_astore_n hG (p1 := 21) (R_getf hG foX6_58 (p1 := 18) (R_getf hG foX6_10 (p1 := 15) (R_aload_n hG dX6_wanted_14 rfl (by decide)) dX6_wanted_15) dX6_wanted_18) dX6_wanted_21 rfl (by decide)) (S_seq hG (p1 := 71) (S_seq hG (p1 := 24) (S_istore_n hG (p1 := 23) (I_iconst hG dX6_wanted_22 (by decide) ⟨by decide, by decide⟩) dX6_wanted_23 rfl (by decide)) (S_while hG (p1 := 32) (p2 := 71) (C_lt_F hG (p1 := 25) (p2 := 29) (tgt := 71) (I_iload_n hG dX6_wanted_24 rfl (by decide)) (I_callV hG (p1 := 26) (p2 := 26) ok_X3_size ckX6_76 ⟨rfl, rfl⟩ (by decide) rfl ⟨by decide, by decide⟩ (by decide) (R_aload_n hG dX6_wanted_25 rfl (by decide)) (A_nil hG) dX6_wanted_26) dX6_wanted_29 (by decide)) (S_seq hG (p1 := 65) (S_seq hG (p1 := 41) (S_istore hG (p1 := 39) (I_isub hG (p1 := 33) (p2 := 38) (I_iload_n hG dX6_wanted_32 rfl (by decide)) (I_callV hG (p1 := 34) (p2 := 35) ok_X3_beginningOf ckX6_154 ⟨rfl, rfl⟩ (by decide) rfl ⟨by decide, by decide⟩ (by decide) (R_aload_n hG dX6_wanted_33 rfl (by decide)) (A_int hG (p1 := 35) (I_iload_n hG dX6_wanted_34 rfl (by decide)) (A_nil hG)) dX6_wanted_35) dX6_wanted_38) dX6_wanted_39 (by decide)) (S_if1 hG (p1 := 57) (p2 := 65) (C_ne_F0 hG (p1 := 54) (tgt := 65) (I_callS hG (p2 := 51) ok_X6_isWithin ckX6_54 ⟨rfl, rfl⟩ ⟨by decide, by decide⟩ (by decide) (A_int hG (p1 := 43) (I_iload hG dX6_wanted_41 (by decide)) (A_int hG (p1 := 44) (I_iconst hG dX6_wanted_43 (by decide) ⟨by decide, by decide⟩) (A_int hG (p1 := 51) (I_isub hG (p1 := 49) (p2 := 50) (I_callV hG (p1 := 45) (p2 := 46) ok_X3_lengthOf ckX6_157 ⟨rfl, rfl⟩ (by decide) rfl ⟨by decide, by decide⟩ (by decide) (R_aload_n hG dX6_wanted_44 rfl (by decide)) (A_int hG (p1 := 46) (I_iload_n hG dX6_wanted_45 rfl (by decide)) (A_nil hG)) dX6_wanted_46) (I_iconst hG dX6_wanted_49 (by decide) ⟨by decide, by decide⟩) dX6_wanted_50) (A_nil hG)))) dX6_wanted_51) dX6_wanted_54 (by decide)) (S_ret hG (p1 := 64) rfl rfl (I_callV hG (p1 := 58) (p2 := 61) ok_X3_wantedOf ckX6_191 ⟨rfl, rfl⟩ (by decide) rfl ⟨by decide, by decide⟩ (by decide) (R_aload_n hG dX6_wanted_57 rfl (by decide)) (A_int hG (p1 := 59) (I_iload_n hG dX6_wanted_58 rfl (by decide)) (A_int hG (p1 := 61) (I_iload hG dX6_wanted_59 (by decide)) (A_nil hG))) dX6_wanted_61) dX6_wanted_64))) (S_goto hG (p2 := 24) (S_iinc hG dX6_wanted_65 (by decide)) dX6_wanted_68 (by decide))))) (S_ret hG (p1 := 73) rfl rfl (I_bipush hG dX6_wanted_71 (by decide) ⟨by decide, by decide⟩) dX6_wanted_73)))
abbrev rm_X6_sung : Room := { frames := 1, cells := 0, slots := 0, locals := 22 }
def B_X6_sung : ST := sSeq (sIf1 (cNot (cNe (iCallS m_X6_isWithin (aI (iL 1) (aI (iC 0) (aI (iC 599) (aN))))) (iC 0))) (sRet false (iC (-2)))) (sSeq (sLoc 2 (iCallV 4 m_X4_sungAt (rF 6 0 (rL 0)) (aI (iL 1) (aN)))) (sRet false (iQ (cEq (iL 2) (iC (-1))) (iC (-5)) (iL 2))))
def m_X6_sung : Mt := mk0 2 B_X6_sung
set_option maxRecDepth 20000 in
theorem ok_X6_sung : MOkI yX6_sung cX6_sung 3 .int rm_X6_sung m_X6_sung := by
  unfold m_X6_sung
  refine MOkI_mk0 (pe := 35) (by decide +kernel) (by decide) (by decide) ⟨rfl, rfl⟩ (fun Rt G hG => ?_)
  have hG : Mach RX6 cX6_sung 3 "sung" rm_X6_sung (some .int) 3 0 (fun _ => 0) Rt G := hG
  unfold B_X6_sung
  exact S_seq hG (p1 := 14) (S_if1 hG (p1 := 11) (p2 := 14) (C_not hG (C_ne_T0 hG (p1 := 8) (tgt := 14) (I_callS hG (p2 := 5) ok_X6_isWithin ckX6_54 ⟨rfl, rfl⟩ ⟨by decide, by decide⟩ (by decide) (A_int hG (p1 := 1) (I_iload_n hG dX6_sung_0 rfl (by decide)) (A_int hG (p1 := 2) (I_iconst hG dX6_sung_1 (by decide) ⟨by decide, by decide⟩) (A_int hG (p1 := 5) (I_sipush hG dX6_sung_2 (by decide) ⟨by decide, by decide⟩) (A_nil hG)))) dX6_sung_5) dX6_sung_8 (by decide))) (S_ret hG (p1 := 13) rfl rfl (I_bipush hG dX6_sung_11 (by decide) ⟨by decide, by decide⟩) dX6_sung_13)) (S_seq hG (p1 := 23) (S_istore_n hG (p1 := 22) (I_callV hG (p1 := 18) (p2 := 19) ok_X4_sungAt ckX6_194 ⟨rfl, rfl⟩ (by decide) rfl ⟨by decide, by decide⟩ (by decide) (R_getf hG foX6_10 (p1 := 15) (R_aload_n hG dX6_sung_14 rfl (by decide)) dX6_sung_15) (A_int hG (p1 := 19) (I_iload_n hG dX6_sung_18 rfl (by decide)) (A_nil hG)) dX6_sung_19) dX6_sung_22 rfl (by decide)) (S_ret hG (p1 := 34) rfl rfl (I_ternX hG (p1 := 28) (p3 := 33) (p4 := 34) (C_eq_F hG (p1 := 24) (p2 := 25) (tgt := 33) (I_iload_n hG dX6_sung_23 rfl (by decide)) (I_iconst hG dX6_sung_24 (by decide) ⟨by decide, by decide⟩) dX6_sung_25 (by decide)) (I_goto hG (I_bipush hG dX6_sung_28 (by decide) ⟨by decide, by decide⟩) dX6_sung_30 (p2 := 34) (by decide)) (I_iload_n hG dX6_sung_33 rfl (by decide))) dX6_sung_34))
abbrev rm_X6_lit : Room := { frames := 2, cells := 0, slots := 0, locals := 42 }
def B_X6_lit : ST := sSeq (sIf1 (cNot (cNe (iCallV 3 m_X3_has (rF 4 0 (rF 6 0 (rL 0))) (aI (iL 1) (aN))) (iC 0))) (sRet false (iC (-1)))) (sSeq (sIf1 (cNot (cNe (iCallS m_X6_isWithin (aI (iL 2) (aI (iC 0) (aI (iC 599) (aN))))) (iC 0))) (sRet false (iC (-2)))) (sSeq (sLoc 3 (iAdd (iSub (iL 2) (iCallV 3 m_X3_beginningOf (rF 4 0 (rF 6 0 (rL 0))) (aI (iL 1) (aN)))) (iC 1))) (sRet false (iMax (iC 0) (iMin (iCallV 3 m_X3_lengthOf (rF 4 0 (rF 6 0 (rL 0))) (aI (iL 1) (aN))) (iL 3))))))
def m_X6_lit : Mt := mk0 3 B_X6_lit
set_option maxRecDepth 20000 in
theorem ok_X6_lit : MOkI yX6_lit cX6_lit 4 .int rm_X6_lit m_X6_lit := by
  unfold m_X6_lit
  refine MOkI_mk0 (pe := 66) (by decide +kernel) (by decide) (by decide) ⟨rfl, rfl⟩ (fun Rt G hG => ?_)
  have hG : Mach RX6 cX6_lit 4 "lit" rm_X6_lit (some .int) 3 0 (fun _ => 0) Rt G := hG
  unfold B_X6_lit
  exact S_seq hG (p1 := 16) (S_if1 hG (p1 := 14) (p2 := 16) (C_not hG (C_ne_T0 hG (p1 := 11) (tgt := 16) (I_callV hG (p1 := 7) (p2 := 8) ok_X3_has ckX6_129 ⟨rfl, rfl⟩ (by decide) rfl ⟨by decide, by decide⟩ (by decide) (R_getf hG foX6_58 (p1 := 4) (R_getf hG foX6_10 (p1 := 1) (R_aload_n hG dX6_lit_0 rfl (by decide)) dX6_lit_1) dX6_lit_4) (A_int hG (p1 := 8) (I_iload_n hG dX6_lit_7 rfl (by decide)) (A_nil hG)) dX6_lit_8) dX6_lit_11 (by decide))) (S_ret hG (p1 := 15) rfl rfl (I_iconst hG dX6_lit_14 (by decide) ⟨by decide, by decide⟩) dX6_lit_15)) (S_seq hG (p1 := 30) (S_if1 hG (p1 := 27) (p2 := 30) (C_not hG (C_ne_T0 hG (p1 := 24) (tgt := 30) (I_callS hG (p2 := 21) ok_X6_isWithin ckX6_54 ⟨rfl, rfl⟩ ⟨by decide, by decide⟩ (by decide) (A_int hG (p1 := 17) (I_iload_n hG dX6_lit_16 rfl (by decide)) (A_int hG (p1 := 18) (I_iconst hG dX6_lit_17 (by decide) ⟨by decide, by decide⟩) (A_int hG (p1 := 21) (I_sipush hG dX6_lit_18 (by decide) ⟨by decide, by decide⟩) (A_nil hG)))) dX6_lit_21) dX6_lit_24 (by decide))) (S_ret hG (p1 := 29) rfl rfl (I_bipush hG dX6_lit_27 (by decide) ⟨by decide, by decide⟩) dX6_lit_29)) (S_seq hG (p1 := 46) (S_istore_n hG (p1 := 45) (I_iadd hG (p1 := 43) (p2 := 44) (I_isub hG (p1 := 31) (p2 := 42) (I_iload_n hG dX6_lit_30 rfl (by decide)) (I_callV hG (p1 := 38) (p2 := 39) ok_X3_beginningOf ckX6_154 ⟨rfl, rfl⟩ (by decide) rfl ⟨by decide, by decide⟩ (by decide) (R_getf hG foX6_58 (p1 := 35) (R_getf hG foX6_10 (p1 := 32) (R_aload_n hG dX6_lit_31 rfl (by decide)) dX6_lit_32) dX6_lit_35) (A_int hG (p1 := 39) (I_iload_n hG dX6_lit_38 rfl (by decide)) (A_nil hG)) dX6_lit_39) dX6_lit_42) (I_iconst hG dX6_lit_43 (by decide) ⟨by decide, by decide⟩) dX6_lit_44) dX6_lit_45 rfl (by decide)) (S_ret hG (p1 := 65) rfl rfl (I_mmax hG (p1 := 47) (p2 := 62) (I_iconst hG dX6_lit_46 (by decide) ⟨by decide, by decide⟩) (I_mmin hG (p1 := 58) (p2 := 59) (I_callV hG (p1 := 54) (p2 := 55) ok_X3_lengthOf ckX6_157 ⟨rfl, rfl⟩ (by decide) rfl ⟨by decide, by decide⟩ (by decide) (R_getf hG foX6_58 (p1 := 51) (R_getf hG foX6_10 (p1 := 48) (R_aload_n hG dX6_lit_47 rfl (by decide)) dX6_lit_48) dX6_lit_51) (A_int hG (p1 := 55) (I_iload_n hG dX6_lit_54 rfl (by decide)) (A_nil hG)) dX6_lit_55) (I_iload_n hG dX6_lit_58 rfl (by decide)) maX6_197 ⟨by decide, by decide⟩ dX6_lit_59) maX6_202 ⟨by decide, by decide⟩ dX6_lit_62) dX6_lit_65)))
abbrev rm_X3_firstOfPhrase : Room := { frames := 2, cells := 0, slots := 0, locals := 42 }
def B_X3_firstOfPhrase : ST := sSeq (sSeq (sLoc 2 (iC 0)) (sWhile (cLt (iL 2) (iF 3 5 (rL 0))) (sSeq (sIf1 (cEq (iCallV 3 m_X3_phraseOf (rL 0) (aI (iL 2) (aN))) (iL 1)) (sRet false (iL 2))) (sInc 2 1)))) (sRet false (iC (-5)))
def m_X3_firstOfPhrase : Mt := mk0 2 B_X3_firstOfPhrase
set_option maxRecDepth 20000 in
theorem ok_X3_firstOfPhrase : MOkI yX3_firstOfPhrase cX3_firstOfPhrase 3 .int rm_X3_firstOfPhrase m_X3_firstOfPhrase := by
  unfold m_X3_firstOfPhrase
  refine MOkI_mk0 (pe := 30) (by decide +kernel) (by decide) (by decide) ⟨rfl, rfl⟩ (fun Rt G hG => ?_)
  have hG : Mach RX3 cX3_firstOfPhrase 3 "firstOfPhrase" rm_X3_firstOfPhrase (some .int) 3 0 (fun _ => 0) Rt G := hG
  unfold B_X3_firstOfPhrase
  exact S_seq hG (p1 := 27) (S_seq hG (p1 := 2) (S_istore_n hG (p1 := 1) (I_iconst hG dX3_firstOfPhrase_0 (by decide) ⟨by decide, by decide⟩) dX3_firstOfPhrase_1 rfl (by decide)) (S_while hG (p1 := 10) (p2 := 27) (C_lt_F hG (p1 := 3) (p2 := 7) (tgt := 27) (I_iload_n hG dX3_firstOfPhrase_2 rfl (by decide)) (I_getf hG foX3_27 (p1 := 4) (R_aload_n hG dX3_firstOfPhrase_3 rfl (by decide)) dX3_firstOfPhrase_4) dX3_firstOfPhrase_7 (by decide)) (S_seq hG (p1 := 21) (S_if1 hG (p1 := 19) (p2 := 21) (C_eq_F hG (p1 := 15) (p2 := 16) (tgt := 21) (I_callV hG (p1 := 11) (p2 := 12) ok_X3_phraseOf ckX3_42 ⟨rfl, rfl⟩ (by decide) rfl ⟨by decide, by decide⟩ (by decide) (R_aload_n hG dX3_firstOfPhrase_10 rfl (by decide)) (A_int hG (p1 := 12) (I_iload_n hG dX3_firstOfPhrase_11 rfl (by decide)) (A_nil hG)) dX3_firstOfPhrase_12) (I_iload_n hG dX3_firstOfPhrase_15 rfl (by decide)) dX3_firstOfPhrase_16 (by decide)) (S_ret hG (p1 := 20) rfl rfl (I_iload_n hG dX3_firstOfPhrase_19 rfl (by decide)) dX3_firstOfPhrase_20)) (S_goto hG (p2 := 2) (S_iinc hG dX3_firstOfPhrase_21 (by decide)) dX3_firstOfPhrase_24 (by decide))))) (S_ret hG (p1 := 29) rfl rfl (I_bipush hG dX3_firstOfPhrase_27 (by decide) ⟨by decide, by decide⟩) dX3_firstOfPhrase_29)
abbrev rm_X1_phraseHitsOf : Room := { frames := 1, cells := 0, slots := 0, locals := 21 }
def B_X1_phraseHitsOf : ST := sRet false (iCallS m_X1_valueIn (aR (rF 1 7 (rL 0)) (aI (iL 1) (aN))))
def m_X1_phraseHitsOf : Mt := mk0 2 B_X1_phraseHitsOf
set_option maxRecDepth 20000 in
theorem ok_X1_phraseHitsOf : MOkI yX1_phraseHitsOf cX1_phraseHitsOf 2 .int rm_X1_phraseHitsOf m_X1_phraseHitsOf := by
  unfold m_X1_phraseHitsOf
  refine MOkI_mk0 (pe := 9) (by decide +kernel) (by decide) (by decide) ⟨rfl, rfl⟩ (fun Rt G hG => ?_)
  have hG : Mach RX1 cX1_phraseHitsOf 2 "phraseHitsOf" rm_X1_phraseHitsOf (some .int) 3 0 (fun _ => 0) Rt G := hG
  unfold B_X1_phraseHitsOf
  exact S_ret hG (p1 := 8) rfl rfl (I_callS hG (p2 := 5) ok_X1_valueIn ckX1_151 ⟨rfl, rfl⟩ ⟨by decide, by decide⟩ (by decide) (A_ref hG (p1 := 4) (R_getf hG foX1_33 (p1 := 1) (R_aload_n hG dX1_phraseHitsOf_0 rfl (by decide)) dX1_phraseHitsOf_1) (A_int hG (p1 := 5) (I_iload_n hG dX1_phraseHitsOf_4 rfl (by decide)) (A_nil hG))) dX1_phraseHitsOf_5) dX1_phraseHitsOf_8
abbrev rm_X1_phrasePointsOf : Room := { frames := 1, cells := 0, slots := 0, locals := 21 }
def B_X1_phrasePointsOf : ST := sRet false (iCallS m_X1_valueIn (aR (rF 1 8 (rL 0)) (aI (iL 1) (aN))))
def m_X1_phrasePointsOf : Mt := mk0 2 B_X1_phrasePointsOf
set_option maxRecDepth 20000 in
theorem ok_X1_phrasePointsOf : MOkI yX1_phrasePointsOf cX1_phrasePointsOf 2 .int rm_X1_phrasePointsOf m_X1_phrasePointsOf := by
  unfold m_X1_phrasePointsOf
  refine MOkI_mk0 (pe := 9) (by decide +kernel) (by decide) (by decide) ⟨rfl, rfl⟩ (fun Rt G hG => ?_)
  have hG : Mach RX1 cX1_phrasePointsOf 2 "phrasePointsOf" rm_X1_phrasePointsOf (some .int) 3 0 (fun _ => 0) Rt G := hG
  unfold B_X1_phrasePointsOf
  exact S_ret hG (p1 := 8) rfl rfl (I_callS hG (p2 := 5) ok_X1_valueIn ckX1_151 ⟨rfl, rfl⟩ ⟨by decide, by decide⟩ (by decide) (A_ref hG (p1 := 4) (R_getf hG foX1_36 (p1 := 1) (R_aload_n hG dX1_phrasePointsOf_0 rfl (by decide)) dX1_phrasePointsOf_1) (A_int hG (p1 := 5) (I_iload_n hG dX1_phrasePointsOf_4 rfl (by decide)) (A_nil hG))) dX1_phrasePointsOf_5) dX1_phrasePointsOf_8
abbrev rm_X1_longestRowOf : Room := { frames := 1, cells := 0, slots := 0, locals := 21 }
def B_X1_longestRowOf : ST := sRet false (iCallS m_X1_valueIn (aR (rF 1 9 (rL 0)) (aI (iL 1) (aN))))
def m_X1_longestRowOf : Mt := mk0 2 B_X1_longestRowOf
set_option maxRecDepth 20000 in
theorem ok_X1_longestRowOf : MOkI yX1_longestRowOf cX1_longestRowOf 2 .int rm_X1_longestRowOf m_X1_longestRowOf := by
  unfold m_X1_longestRowOf
  refine MOkI_mk0 (pe := 9) (by decide +kernel) (by decide) (by decide) ⟨rfl, rfl⟩ (fun Rt G hG => ?_)
  have hG : Mach RX1 cX1_longestRowOf 2 "longestRowOf" rm_X1_longestRowOf (some .int) 3 0 (fun _ => 0) Rt G := hG
  unfold B_X1_longestRowOf
  exact S_ret hG (p1 := 8) rfl rfl (I_callS hG (p2 := 5) ok_X1_valueIn ckX1_151 ⟨rfl, rfl⟩ ⟨by decide, by decide⟩ (by decide) (A_ref hG (p1 := 4) (R_getf hG foX1_39 (p1 := 1) (R_aload_n hG dX1_longestRowOf_0 rfl (by decide)) dX1_longestRowOf_1) (A_int hG (p1 := 5) (I_iload_n hG dX1_longestRowOf_4 rfl (by decide)) (A_nil hG))) dX1_longestRowOf_5) dX1_longestRowOf_8
abbrev rm_X6_phrase : Room := { frames := 5, cells := 0, slots := 0, locals := 121 }
def B_X6_phrase : ST := sSeq (sIf1 (cNot (cNe (iCallS m_X6_isWithin (aI (iL 1) (aI (iC 0) (aI (iSub (iCallV 3 m_X3_phraseCount (rF 4 0 (rF 6 0 (rL 0))) (aN)) (iC 1)) (aN))))) (iC 0))) (sRet false (iC (-1)))) (sSeq (sIf1 (cNot (cNe (iCallS m_X6_isWithin (aI (iL 2) (aI (iC 0) (aI (iC 4) (aN))))) (iC 0))) (sRet false (iC (-2)))) (sSeq (sCallV 1 m_X1_judge (rF 6 7 (rL 0)) (aR (rF 6 0 (rL 0)) (aN))) (sSw (iL 2) 0 [sRet false (iCallV 3 m_X3_firstOfPhrase (rF 4 0 (rF 6 0 (rL 0))) (aI (iL 1) (aN))), sRet false (iCallV 3 m_X3_sizeOfPhrase (rF 4 0 (rF 6 0 (rL 0))) (aI (iL 1) (aN))), sRet false (iCallV 1 m_X1_phraseHitsOf (rF 6 7 (rL 0)) (aI (iL 1) (aN))), sRet false (iCallV 1 m_X1_phrasePointsOf (rF 6 7 (rL 0)) (aI (iL 1) (aN)))] (sRet false (iCallV 1 m_X1_longestRowOf (rF 6 7 (rL 0)) (aI (iL 1) (aN)))))))
def m_X6_phrase : Mt := mk0 3 B_X6_phrase
set_option maxRecDepth 20000 in
theorem ok_X6_phrase : MOkI yX6_phrase cX6_phrase 3 .int rm_X6_phrase m_X6_phrase := by
  unfold m_X6_phrase
  refine MOkI_mk0 (pe := 127) (by decide +kernel) (by decide) (by decide) ⟨rfl, rfl⟩ (fun Rt G hG => ?_)
  have hG : Mach RX6 cX6_phrase 3 "phrase" rm_X6_phrase (some .int) 3 0 (fun _ => 0) Rt G := hG
  unfold B_X6_phrase
  exact S_seq hG (p1 := 22) (S_if1 hG (p1 := 20) (p2 := 22) (C_not hG (C_ne_T0 hG (p1 := 17) (tgt := 22) (I_callS hG (p2 := 14) ok_X6_isWithin ckX6_54 ⟨rfl, rfl⟩ ⟨by decide, by decide⟩ (by decide) (A_int hG (p1 := 1) (I_iload_n hG dX6_phrase_0 rfl (by decide)) (A_int hG (p1 := 2) (I_iconst hG dX6_phrase_1 (by decide) ⟨by decide, by decide⟩) (A_int hG (p1 := 14) (I_isub hG (p1 := 12) (p2 := 13) (I_callV hG (p1 := 9) (p2 := 9) ok_X3_phraseCount ckX6_205 ⟨rfl, rfl⟩ (by decide) rfl ⟨by decide, by decide⟩ (by decide) (R_getf hG foX6_58 (p1 := 6) (R_getf hG foX6_10 (p1 := 3) (R_aload_n hG dX6_phrase_2 rfl (by decide)) dX6_phrase_3) dX6_phrase_6) (A_nil hG) dX6_phrase_9) (I_iconst hG dX6_phrase_12 (by decide) ⟨by decide, by decide⟩) dX6_phrase_13) (A_nil hG)))) dX6_phrase_14) dX6_phrase_17 (by decide))) (S_ret hG (p1 := 21) rfl rfl (I_iconst hG dX6_phrase_20 (by decide) ⟨by decide, by decide⟩) dX6_phrase_21)) (S_seq hG (p1 := 34) (S_if1 hG (p1 := 31) (p2 := 34) (C_not hG (C_ne_T0 hG (p1 := 28) (tgt := 34) (I_callS hG (p2 := 25) ok_X6_isWithin ckX6_54 ⟨rfl, rfl⟩ ⟨by decide, by decide⟩ (by decide) (A_int hG (p1 := 23) (I_iload_n hG dX6_phrase_22 rfl (by decide)) (A_int hG (p1 := 24) (I_iconst hG dX6_phrase_23 (by decide) ⟨by decide, by decide⟩) (A_int hG (p1 := 25) (I_iconst hG dX6_phrase_24 (by decide) ⟨by decide, by decide⟩) (A_nil hG)))) dX6_phrase_25) dX6_phrase_28 (by decide))) (S_ret hG (p1 := 33) rfl rfl (I_bipush hG dX6_phrase_31 (by decide) ⟨by decide, by decide⟩) dX6_phrase_33)) (S_seq hG (p1 := 45) (S_callV hG (p1 := 38) (p2 := 42) ok_X1_judge ckX6_152 ⟨rfl, rfl⟩ (by decide) rfl ⟨by decide, by decide⟩ (R_getf hG foX6_50 (p1 := 35) (R_aload_n hG dX6_phrase_34 rfl (by decide)) dX6_phrase_35) (A_ref hG (p1 := 42) (R_getf hG foX6_10 (p1 := 39) (R_aload_n hG dX6_phrase_38 rfl (by decide)) dX6_phrase_39) (A_nil hG)) dX6_phrase_42) (S_sw hG (p1 := 46) (dt := 118) (ts := [76, 88, 100, 109]) (I_iload_n hG dX6_phrase_45 rfl (by decide)) dX6_phrase_46 (by decide) (by decide) rfl ⟨S_ret hG (p1 := 87) rfl rfl (I_callV hG (p1 := 83) (p2 := 84) ok_X3_firstOfPhrase ckX6_208 ⟨rfl, rfl⟩ (by decide) rfl ⟨by decide, by decide⟩ (by decide) (R_getf hG foX6_58 (p1 := 80) (R_getf hG foX6_10 (p1 := 77) (R_aload_n hG dX6_phrase_76 rfl (by decide)) dX6_phrase_77) dX6_phrase_80) (A_int hG (p1 := 84) (I_iload_n hG dX6_phrase_83 rfl (by decide)) (A_nil hG)) dX6_phrase_84) dX6_phrase_87, S_ret hG (p1 := 99) rfl rfl (I_callV hG (p1 := 95) (p2 := 96) ok_X3_sizeOfPhrase ckX6_211 ⟨rfl, rfl⟩ (by decide) rfl ⟨by decide, by decide⟩ (by decide) (R_getf hG foX6_58 (p1 := 92) (R_getf hG foX6_10 (p1 := 89) (R_aload_n hG dX6_phrase_88 rfl (by decide)) dX6_phrase_89) dX6_phrase_92) (A_int hG (p1 := 96) (I_iload_n hG dX6_phrase_95 rfl (by decide)) (A_nil hG)) dX6_phrase_96) dX6_phrase_99, S_ret hG (p1 := 108) rfl rfl (I_callV hG (p1 := 104) (p2 := 105) ok_X1_phraseHitsOf ckX6_214 ⟨rfl, rfl⟩ (by decide) rfl ⟨by decide, by decide⟩ (by decide) (R_getf hG foX6_50 (p1 := 101) (R_aload_n hG dX6_phrase_100 rfl (by decide)) dX6_phrase_101) (A_int hG (p1 := 105) (I_iload_n hG dX6_phrase_104 rfl (by decide)) (A_nil hG)) dX6_phrase_105) dX6_phrase_108, S_ret hG (p1 := 117) rfl rfl (I_callV hG (p1 := 113) (p2 := 114) ok_X1_phrasePointsOf ckX6_217 ⟨rfl, rfl⟩ (by decide) rfl ⟨by decide, by decide⟩ (by decide) (R_getf hG foX6_50 (p1 := 110) (R_aload_n hG dX6_phrase_109 rfl (by decide)) dX6_phrase_110) (A_int hG (p1 := 114) (I_iload_n hG dX6_phrase_113 rfl (by decide)) (A_nil hG)) dX6_phrase_114) dX6_phrase_117, trivial⟩ (S_ret hG (p1 := 126) rfl rfl (I_callV hG (p1 := 122) (p2 := 123) ok_X1_longestRowOf ckX6_220 ⟨rfl, rfl⟩ (by decide) rfl ⟨by decide, by decide⟩ (by decide) (R_getf hG foX6_50 (p1 := 119) (R_aload_n hG dX6_phrase_118 rfl (by decide)) dX6_phrase_119) (A_int hG (p1 := 123) (I_iload_n hG dX6_phrase_122 rfl (by decide)) (A_nil hG)) dX6_phrase_123) dX6_phrase_126))))
abbrev rm_X4_onsets : Room := { frames := 2, cells := 0, slots := 0, locals := 42 }
def B_X4_onsets : ST := sSeq (sLoc 1 (iC 0)) (sSeq (sSeq (sLoc 2 (iC 0)) (sWhile (cLt (iL 2) (iC 600)) (sSeq (sIf1 (cNe (iCallV 4 m_X4_isOnset (rL 0) (aI (iL 2) (aN))) (iC 0)) (sInc 1 1)) (sInc 2 1)))) (sRet false (iL 1)))
def m_X4_onsets : Mt := mk0 1 B_X4_onsets
set_option maxRecDepth 20000 in
theorem ok_X4_onsets : MOkI yX4_onsets cX4_onsets 3 .int rm_X4_onsets m_X4_onsets := by
  unfold m_X4_onsets
  refine MOkI_mk0 (pe := 30) (by decide +kernel) (by decide) (by decide) ⟨rfl, rfl⟩ (fun Rt G hG => ?_)
  have hG : Mach RX4 cX4_onsets 3 "onsets" rm_X4_onsets (some .int) 3 0 (fun _ => 0) Rt G := hG
  unfold B_X4_onsets
  exact S_seq hG (p1 := 2) (S_istore_n hG (p1 := 1) (I_iconst hG dX4_onsets_0 (by decide) ⟨by decide, by decide⟩) dX4_onsets_1 rfl (by decide)) (S_seq hG (p1 := 28) (S_seq hG (p1 := 4) (S_istore_n hG (p1 := 3) (I_iconst hG dX4_onsets_2 (by decide) ⟨by decide, by decide⟩) dX4_onsets_3 rfl (by decide)) (S_while hG (p1 := 11) (p2 := 28) (C_lt_F hG (p1 := 5) (p2 := 8) (tgt := 28) (I_iload_n hG dX4_onsets_4 rfl (by decide)) (I_sipush hG dX4_onsets_5 (by decide) ⟨by decide, by decide⟩) dX4_onsets_8 (by decide)) (S_seq hG (p1 := 22) (S_if1 hG (p1 := 19) (p2 := 22) (C_ne_F0 hG (p1 := 16) (tgt := 22) (I_callV hG (p1 := 12) (p2 := 13) ok_X4_isOnset ckX4_60 ⟨rfl, rfl⟩ (by decide) rfl ⟨by decide, by decide⟩ (by decide) (R_aload_n hG dX4_onsets_11 rfl (by decide)) (A_int hG (p1 := 13) (I_iload_n hG dX4_onsets_12 rfl (by decide)) (A_nil hG)) dX4_onsets_13) dX4_onsets_16 (by decide)) (S_iinc hG dX4_onsets_19 (by decide))) (S_goto hG (p2 := 4) (S_iinc hG dX4_onsets_22 (by decide)) dX4_onsets_25 (by decide))))) (S_ret hG (p1 := 29) rfl rfl (I_iload_n hG dX4_onsets_28 rfl (by decide)) dX4_onsets_29))
abbrev rm_X6_pointsOf : Room := { frames := 5, cells := 0, slots := 0, locals := 121 }
def B_X6_pointsOf : ST := sSeq (sCallV 1 m_X1_judge (rF 6 7 (rL 0)) (aR (rL 1) (aN))) (sRet false (iF 1 11 (rF 6 7 (rL 0))))
def m_X6_pointsOf : Mt := mk0 2 B_X6_pointsOf
set_option maxRecDepth 20000 in
theorem ok_X6_pointsOf : MOkI yX6_pointsOf cX6_pointsOf 2 .int rm_X6_pointsOf m_X6_pointsOf := by
  unfold m_X6_pointsOf
  refine MOkI_mk0 (pe := 16) (by decide +kernel) (by decide) (by decide) ⟨rfl, rfl⟩ (fun Rt G hG => ?_)
  have hG : Mach RX6 cX6_pointsOf 2 "pointsOf" rm_X6_pointsOf (some .int) 3 0 (fun _ => 0) Rt G := hG
  unfold B_X6_pointsOf
  exact S_seq hG (p1 := 8) (S_callV hG (p1 := 4) (p2 := 5) ok_X1_judge ckX6_152 ⟨rfl, rfl⟩ (by decide) rfl ⟨by decide, by decide⟩ (R_getf hG foX6_50 (p1 := 1) (R_aload_n hG dX6_pointsOf_0 rfl (by decide)) dX6_pointsOf_1) (A_ref hG (p1 := 5) (R_aload_n hG dX6_pointsOf_4 rfl (by decide)) (A_nil hG)) dX6_pointsOf_5) (S_ret hG (p1 := 15) rfl rfl (I_getf hG foX6_248 (p1 := 12) (R_getf hG foX6_50 (p1 := 9) (R_aload_n hG dX6_pointsOf_8 rfl (by decide)) dX6_pointsOf_9) dX6_pointsOf_12) dX6_pointsOf_15)
end
section
abbrev rm_X1_judgePerfect : Room := { frames := 4, cells := 0, slots := 0, locals := 90 }
def B_X1_judgePerfect : ST := sSeq (sSeq (sLocR 2 (rF 4 0 (rL 1))) (sSeq (sSeq (sLoc 3 (iC 0)) (sWhile (cAnd (cLt (iL 3) (iCallV 3 m_X3_size (rL 2) (aN))) (cLt (iL 3) (iC 40))) (sSeq (sSeq (sAst (rF 1 0 (rL 0)) (iL 3) (iCallV 3 m_X3_lengthOf (rL 2) (aI (iL 3) (aN)))) (sSeq (sAst (rF 1 1 (rL 0)) (iL 3) (iC 100)) (sSeq (sAst (rF 1 2 (rL 0)) (iL 3) (iCallV 3 m_X3_barLinesOf (rL 2) (aI (iL 3) (aI (iCallV 4 m_X4_setting (rL 1) (aI (iC 0) (aN))) (aN))))) (sSeq (sAst (rF 1 3 (rL 0)) (iL 3) (iCallV 3 m_X3_beginningOf (rL 2) (aI (iL 3) (aN)))) (sAst (rF 1 4 (rL 0)) (iL 3) (iC 0)))))) (sInc 3 1)))) (sCallV 1 m_X1_score (rL 0) (aR (rL 2) (aN))))) sRetV
def m_X1_judgePerfect : Mt := mk0 2 B_X1_judgePerfect
set_option maxRecDepth 20000 in
theorem ok_X1_judgePerfect : MOkV yX1_judgePerfect cX1_judgePerfect 4 rm_X1_judgePerfect m_X1_judgePerfect := by
  unfold m_X1_judgePerfect
  refine MOkV_mk0 (pe := 86) (by decide +kernel) (by decide) (by decide) ⟨rfl, rfl⟩ (fun Rt G hG => ?_)
  have hG : Mach RX1 cX1_judgePerfect 4 "judgePerfect" rm_X1_judgePerfect none 3 0 (fun _ => 0) Rt G := hG
  unfold B_X1_judgePerfect
  exact S_seq hG (p1 := 85) (S_seq hG (p1 := 5) (S_astore_n hG (p1 := 4) (R_getf hG foX1_49 (p1 := 1) (R_aload_n hG dX1_judgePerfect_0 rfl (by decide)) dX1_judgePerfect_1) dX1_judgePerfect_4 rfl (by decide)) (S_seq hG (p1 := 80) (S_seq hG (p1 := 7) (S_istore_n hG (p1 := 6) (I_iconst hG dX1_judgePerfect_5 (by decide) ⟨by decide, by decide⟩) dX1_judgePerfect_6 rfl (by decide)) (S_while hG (p1 := 21) (p2 := 80) (C_and hG (p1 := 15) (C_lt_F hG (p1 := 8) (p2 := 12) (tgt := 80) (I_iload_n hG dX1_judgePerfect_7 rfl (by decide)) (I_callV hG (p1 := 9) (p2 := 9) ok_X3_size ckX1_55 ⟨rfl, rfl⟩ (by decide) rfl ⟨by decide, by decide⟩ (by decide) (R_aload_n hG dX1_judgePerfect_8 rfl (by decide)) (A_nil hG) dX1_judgePerfect_9) dX1_judgePerfect_12 (by decide)) (C_lt_F hG (p1 := 16) (p2 := 18) (tgt := 80) (I_iload_n hG dX1_judgePerfect_15 rfl (by decide)) (I_bipush hG dX1_judgePerfect_16 (by decide) ⟨by decide, by decide⟩) dX1_judgePerfect_18 (by decide))) (S_seq hG (p1 := 74) (S_seq hG (p1 := 32) (S_iast hG (p1 := 25) (p2 := 26) (p3 := 31) (R_getf hG foX1_9 (p1 := 22) (R_aload_n hG dX1_judgePerfect_21 rfl (by decide)) dX1_judgePerfect_22) (I_iload_n hG dX1_judgePerfect_25 rfl (by decide)) (I_callV hG (p1 := 27) (p2 := 28) ok_X3_lengthOf ckX1_69 ⟨rfl, rfl⟩ (by decide) rfl ⟨by decide, by decide⟩ (by decide) (R_aload_n hG dX1_judgePerfect_26 rfl (by decide)) (A_int hG (p1 := 28) (I_iload_n hG dX1_judgePerfect_27 rfl (by decide)) (A_nil hG)) dX1_judgePerfect_28) dX1_judgePerfect_31) (S_seq hG (p1 := 40) (S_iast hG (p1 := 36) (p2 := 37) (p3 := 39) (R_getf hG foX1_15 (p1 := 33) (R_aload_n hG dX1_judgePerfect_32 rfl (by decide)) dX1_judgePerfect_33) (I_iload_n hG dX1_judgePerfect_36 rfl (by decide)) (I_bipush hG dX1_judgePerfect_37 (by decide) ⟨by decide, by decide⟩) dX1_judgePerfect_39) (S_seq hG (p1 := 56) (S_iast hG (p1 := 44) (p2 := 45) (p3 := 55) (R_getf hG foX1_18 (p1 := 41) (R_aload_n hG dX1_judgePerfect_40 rfl (by decide)) dX1_judgePerfect_41) (I_iload_n hG dX1_judgePerfect_44 rfl (by decide)) (I_callV hG (p1 := 46) (p2 := 52) ok_X3_barLinesOf ckX1_76 ⟨rfl, rfl⟩ (by decide) rfl ⟨by decide, by decide⟩ (by decide) (R_aload_n hG dX1_judgePerfect_45 rfl (by decide)) (A_int hG (p1 := 47) (I_iload_n hG dX1_judgePerfect_46 rfl (by decide)) (A_int hG (p1 := 52) (I_callV hG (p1 := 48) (p2 := 49) ok_X4_setting ckX1_73 ⟨rfl, rfl⟩ (by decide) rfl ⟨by decide, by decide⟩ (by decide) (R_aload_n hG dX1_judgePerfect_47 rfl (by decide)) (A_int hG (p1 := 49) (I_iconst hG dX1_judgePerfect_48 (by decide) ⟨by decide, by decide⟩) (A_nil hG)) dX1_judgePerfect_49) (A_nil hG))) dX1_judgePerfect_52) dX1_judgePerfect_55) (S_seq hG (p1 := 67) (S_iast hG (p1 := 60) (p2 := 61) (p3 := 66) (R_getf hG foX1_21 (p1 := 57) (R_aload_n hG dX1_judgePerfect_56 rfl (by decide)) dX1_judgePerfect_57) (I_iload_n hG dX1_judgePerfect_60 rfl (by decide)) (I_callV hG (p1 := 62) (p2 := 63) ok_X3_beginningOf ckX1_80 ⟨rfl, rfl⟩ (by decide) rfl ⟨by decide, by decide⟩ (by decide) (R_aload_n hG dX1_judgePerfect_61 rfl (by decide)) (A_int hG (p1 := 63) (I_iload_n hG dX1_judgePerfect_62 rfl (by decide)) (A_nil hG)) dX1_judgePerfect_63) dX1_judgePerfect_66) (S_iast hG (p1 := 71) (p2 := 72) (p3 := 73) (R_getf hG foX1_24 (p1 := 68) (R_aload_n hG dX1_judgePerfect_67 rfl (by decide)) dX1_judgePerfect_68) (I_iload_n hG dX1_judgePerfect_71 rfl (by decide)) (I_iconst hG dX1_judgePerfect_72 (by decide) ⟨by decide, by decide⟩) dX1_judgePerfect_73))))) (S_goto hG (p2 := 7) (S_iinc hG dX1_judgePerfect_74 (by decide)) dX1_judgePerfect_77 (by decide))))) (S_callV hG (p1 := 81) (p2 := 82) ok_X1_score ckX1_65 ⟨rfl, rfl⟩ (by decide) rfl ⟨by decide, by decide⟩ (R_aload_n hG dX1_judgePerfect_80 rfl (by decide)) (A_ref hG (p1 := 82) (R_aload_n hG dX1_judgePerfect_81 rfl (by decide)) (A_nil hG)) dX1_judgePerfect_82))) (S_retV hG rfl dX1_judgePerfect_85)
abbrev rm_X6_mostPoints : Room := { frames := 5, cells := 0, slots := 0, locals := 113 }
def B_X6_mostPoints : ST := sSeq (sCallV 1 m_X1_judgePerfect (rF 6 7 (rL 0)) (aR (rF 6 0 (rL 0)) (aN))) (sRet false (iF 1 11 (rF 6 7 (rL 0))))
def m_X6_mostPoints : Mt := mk0 1 B_X6_mostPoints
set_option maxRecDepth 20000 in
theorem ok_X6_mostPoints : MOkI yX6_mostPoints cX6_mostPoints 1 .int rm_X6_mostPoints m_X6_mostPoints := by
  unfold m_X6_mostPoints
  refine MOkI_mk0 (pe := 19) (by decide +kernel) (by decide) (by decide) ⟨rfl, rfl⟩ (fun Rt G hG => ?_)
  have hG : Mach RX6 cX6_mostPoints 1 "mostPoints" rm_X6_mostPoints (some .int) 3 0 (fun _ => 0) Rt G := hG
  unfold B_X6_mostPoints
  exact S_seq hG (p1 := 11) (S_callV hG (p1 := 4) (p2 := 8) ok_X1_judgePerfect ckX6_251 ⟨rfl, rfl⟩ (by decide) rfl ⟨by decide, by decide⟩ (R_getf hG foX6_50 (p1 := 1) (R_aload_n hG dX6_mostPoints_0 rfl (by decide)) dX6_mostPoints_1) (A_ref hG (p1 := 8) (R_getf hG foX6_10 (p1 := 5) (R_aload_n hG dX6_mostPoints_4 rfl (by decide)) dX6_mostPoints_5) (A_nil hG)) dX6_mostPoints_8) (S_ret hG (p1 := 18) rfl rfl (I_getf hG foX6_248 (p1 := 15) (R_getf hG foX6_50 (p1 := 12) (R_aload_n hG dX6_mostPoints_11 rfl (by decide)) dX6_mostPoints_12) dX6_mostPoints_15) dX6_mostPoints_18)
abbrev rm_X5_size : Room := { frames := 0, cells := 0, slots := 0, locals := 0 }
def B_X5_size : ST := sRet false (iF 5 1 (rL 0))
def m_X5_size : Mt := mk0 1 B_X5_size
set_option maxRecDepth 20000 in
theorem ok_X5_size : MOkI yX5_size cX5_size 1 .int rm_X5_size m_X5_size := by
  unfold m_X5_size
  refine MOkI_mk0 (pe := 5) (by decide +kernel) (by decide) (by decide) ⟨rfl, rfl⟩ (fun Rt G hG => ?_)
  have hG : Mach RX5 cX5_size 1 "size" rm_X5_size (some .int) 3 0 (fun _ => 0) Rt G := hG
  unfold B_X5_size
  exact S_ret hG (p1 := 4) rfl rfl (I_getf hG foX5_15 (p1 := 1) (R_aload_n hG dX5_size_0 rfl (by decide)) dX5_size_1) dX5_size_4
abbrev rm_X6_total : Room := { frames := 6, cells := 0, slots := 0, locals := 142 }
def B_X6_total : ST := sSeq (sIf1 (cNot (cNe (iCallS m_X6_isWithin (aI (iL 1) (aI (iC 0) (aI (iC 14) (aN))))) (iC 0))) (sRet false (iC (-2)))) (sSeq (sIf1 (cNe (iCallS m_X6_isSetting (aI (iL 1) (aN))) (iC 0)) (sRet false (iCallV 4 m_X4_setting (rF 6 0 (rL 0)) (aI (iL 1) (aN))))) (sSw (iL 1) 5 [sRet false (iCallV 3 m_X3_size (rF 4 0 (rF 6 0 (rL 0))) (aN)), sRet false (iCallV 3 m_X3_phraseCount (rF 4 0 (rF 6 0 (rL 0))) (aN)), sRet false (iCallV 3 m_X3_ticks (rF 4 0 (rF 6 0 (rL 0))) (aN)), sRet false (iCallV 4 m_X4_soundingTicks (rF 6 0 (rL 0)) (aN)), sRet false (iCallV 4 m_X4_onsets (rF 6 0 (rL 0)) (aN)), sRet false (iCallV 6 m_X6_hitsNow (rL 0) (aN)), sRet false (iCallV 6 m_X6_pointsOf (rL 0) (aR (rF 6 0 (rL 0)) (aN))), sRet false (iCallV 6 m_X6_mostPoints (rL 0) (aN)), sRet false (iCallV 0 m_X0_size (rF 6 4 (rL 0)) (aN))] (sRet false (iCallV 5 m_X5_size (rF 6 5 (rL 0)) (aN)))))
def m_X6_total : Mt := mk0 2 B_X6_total
set_option maxRecDepth 20000 in
theorem ok_X6_total : MOkI yX6_total cX6_total 2 .int rm_X6_total m_X6_total := by
  unfold m_X6_total
  refine MOkI_mk0 (pe := 164) (by decide +kernel) (by decide) (by decide) ⟨rfl, rfl⟩ (fun Rt G hG => ?_)
  have hG : Mach RX6 cX6_total 2 "total" rm_X6_total (some .int) 3 0 (fun _ => 0) Rt G := hG
  unfold B_X6_total
  exact S_seq hG (p1 := 13) (S_if1 hG (p1 := 10) (p2 := 13) (C_not hG (C_ne_T0 hG (p1 := 7) (tgt := 13) (I_callS hG (p2 := 4) ok_X6_isWithin ckX6_54 ⟨rfl, rfl⟩ ⟨by decide, by decide⟩ (by decide) (A_int hG (p1 := 1) (I_iload_n hG dX6_total_0 rfl (by decide)) (A_int hG (p1 := 2) (I_iconst hG dX6_total_1 (by decide) ⟨by decide, by decide⟩) (A_int hG (p1 := 4) (I_bipush hG dX6_total_2 (by decide) ⟨by decide, by decide⟩) (A_nil hG)))) dX6_total_4) dX6_total_7 (by decide))) (S_ret hG (p1 := 12) rfl rfl (I_bipush hG dX6_total_10 (by decide) ⟨by decide, by decide⟩) dX6_total_12)) (S_seq hG (p1 := 29) (S_if1 hG (p1 := 20) (p2 := 29) (C_ne_F0 hG (p1 := 17) (tgt := 29) (I_callS hG (p2 := 14) ok_X6_isSetting ckX6_101 ⟨rfl, rfl⟩ ⟨by decide, by decide⟩ (by decide) (A_int hG (p1 := 14) (I_iload_n hG dX6_total_13 rfl (by decide)) (A_nil hG)) dX6_total_14) dX6_total_17 (by decide)) (S_ret hG (p1 := 28) rfl rfl (I_callV hG (p1 := 24) (p2 := 25) ok_X4_setting ckX6_108 ⟨rfl, rfl⟩ (by decide) rfl ⟨by decide, by decide⟩ (by decide) (R_getf hG foX6_10 (p1 := 21) (R_aload_n hG dX6_total_20 rfl (by decide)) dX6_total_21) (A_int hG (p1 := 25) (I_iload_n hG dX6_total_24 rfl (by decide)) (A_nil hG)) dX6_total_25) dX6_total_28)) (S_sw hG (p1 := 30) (dt := 156) (ts := [80, 91, 102, 113, 121, 129, 134, 143, 148]) (I_iload_n hG dX6_total_29 rfl (by decide)) dX6_total_30 (by decide) (by decide) rfl ⟨S_ret hG (p1 := 90) rfl rfl (I_callV hG (p1 := 87) (p2 := 87) ok_X3_size ckX6_76 ⟨rfl, rfl⟩ (by decide) rfl ⟨by decide, by decide⟩ (by decide) (R_getf hG foX6_58 (p1 := 84) (R_getf hG foX6_10 (p1 := 81) (R_aload_n hG dX6_total_80 rfl (by decide)) dX6_total_81) dX6_total_84) (A_nil hG) dX6_total_87) dX6_total_90, S_ret hG (p1 := 101) rfl rfl (I_callV hG (p1 := 98) (p2 := 98) ok_X3_phraseCount ckX6_205 ⟨rfl, rfl⟩ (by decide) rfl ⟨by decide, by decide⟩ (by decide) (R_getf hG foX6_58 (p1 := 95) (R_getf hG foX6_10 (p1 := 92) (R_aload_n hG dX6_total_91 rfl (by decide)) dX6_total_92) dX6_total_95) (A_nil hG) dX6_total_98) dX6_total_101, S_ret hG (p1 := 112) rfl rfl (I_callV hG (p1 := 109) (p2 := 109) ok_X3_ticks ckX6_223 ⟨rfl, rfl⟩ (by decide) rfl ⟨by decide, by decide⟩ (by decide) (R_getf hG foX6_58 (p1 := 106) (R_getf hG foX6_10 (p1 := 103) (R_aload_n hG dX6_total_102 rfl (by decide)) dX6_total_103) dX6_total_106) (A_nil hG) dX6_total_109) dX6_total_112, S_ret hG (p1 := 120) rfl rfl (I_callV hG (p1 := 117) (p2 := 117) ok_X4_soundingTicks ckX6_126 ⟨rfl, rfl⟩ (by decide) rfl ⟨by decide, by decide⟩ (by decide) (R_getf hG foX6_10 (p1 := 114) (R_aload_n hG dX6_total_113 rfl (by decide)) dX6_total_114) (A_nil hG) dX6_total_117) dX6_total_120, S_ret hG (p1 := 128) rfl rfl (I_callV hG (p1 := 125) (p2 := 125) ok_X4_onsets ckX6_226 ⟨rfl, rfl⟩ (by decide) rfl ⟨by decide, by decide⟩ (by decide) (R_getf hG foX6_10 (p1 := 122) (R_aload_n hG dX6_total_121 rfl (by decide)) dX6_total_122) (A_nil hG) dX6_total_125) dX6_total_128, S_ret hG (p1 := 133) rfl rfl (I_callV hG (p1 := 130) (p2 := 130) ok_X6_hitsNow ckX6_123 ⟨rfl, rfl⟩ (by decide) rfl ⟨by decide, by decide⟩ (by decide) (R_aload_n hG dX6_total_129 rfl (by decide)) (A_nil hG) dX6_total_130) dX6_total_133, S_ret hG (p1 := 142) rfl rfl (I_callV hG (p1 := 135) (p2 := 139) ok_X6_pointsOf ckX6_229 ⟨rfl, rfl⟩ (by decide) rfl ⟨by decide, by decide⟩ (by decide) (R_aload_n hG dX6_total_134 rfl (by decide)) (A_ref hG (p1 := 139) (R_getf hG foX6_10 (p1 := 136) (R_aload_n hG dX6_total_135 rfl (by decide)) dX6_total_136) (A_nil hG)) dX6_total_139) dX6_total_142, S_ret hG (p1 := 147) rfl rfl (I_callV hG (p1 := 144) (p2 := 144) ok_X6_mostPoints ckX6_231 ⟨rfl, rfl⟩ (by decide) rfl ⟨by decide, by decide⟩ (by decide) (R_aload_n hG dX6_total_143 rfl (by decide)) (A_nil hG) dX6_total_144) dX6_total_147, S_ret hG (p1 := 155) rfl rfl (I_callV hG (p1 := 152) (p2 := 152) ok_X0_size ckX6_145 ⟨rfl, rfl⟩ (by decide) rfl ⟨by decide, by decide⟩ (by decide) (R_getf hG foX6_29 (p1 := 149) (R_aload_n hG dX6_total_148 rfl (by decide)) dX6_total_149) (A_nil hG) dX6_total_152) dX6_total_155, trivial⟩ (S_ret hG (p1 := 163) rfl rfl (I_callV hG (p1 := 160) (p2 := 160) ok_X5_size ckX6_234 ⟨rfl, rfl⟩ (by decide) rfl ⟨by decide, by decide⟩ (by decide) (R_getf hG foX6_36 (p1 := 157) (R_aload_n hG dX6_total_156 rfl (by decide)) dX6_total_157) (A_nil hG) dX6_total_160) dX6_total_163)))
abbrev rm_X4_voiceShifted : Room := { frames := 2, cells := 0, slots := 0, locals := 44 }
def B_X4_voiceShifted : ST := sSeq (sSeq (sLoc 4 (iC 0)) (sWhile (cLt (iL 4) (iC 600)) (sSeq (sSeq (sLoc 5 (iCallV 4 m_X4_sungAt (rL 1) (aI (iSub (iL 4) (iL 2)) (aN)))) (sCallV 4 m_X4_voiceAt (rL 0) (aI (iL 4) (aI (iQ (cEq (iL 5) (iC (-1))) (iC (-1)) (iAdd (iL 5) (iL 3))) (aN))))) (sInc 4 1)))) sRetV
def m_X4_voiceShifted : Mt := mk0 4 B_X4_voiceShifted
set_option maxRecDepth 20000 in
theorem ok_X4_voiceShifted : MOkV yX4_voiceShifted cX4_voiceShifted 6 rm_X4_voiceShifted m_X4_voiceShifted := by
  unfold m_X4_voiceShifted
  refine MOkV_mk0 (pe := 48) (by decide +kernel) (by decide) (by decide) ⟨rfl, rfl⟩ (fun Rt G hG => ?_)
  have hG : Mach RX4 cX4_voiceShifted 6 "voiceShifted" rm_X4_voiceShifted none 3 0 (fun _ => 0) Rt G := hG
  unfold B_X4_voiceShifted
  exact S_seq hG (p1 := 47) (S_seq hG (p1 := 3) (S_istore hG (p1 := 1) (I_iconst hG dX4_voiceShifted_0 (by decide) ⟨by decide, by decide⟩) dX4_voiceShifted_1 (by decide)) (S_while hG (p1 := 11) (p2 := 47) (C_lt_F hG (p1 := 5) (p2 := 8) (tgt := 47) (I_iload hG dX4_voiceShifted_3 (by decide)) (I_sipush hG dX4_voiceShifted_5 (by decide) ⟨by decide, by decide⟩) dX4_voiceShifted_8 (by decide)) (S_seq hG (p1 := 41) (S_seq hG (p1 := 21) (S_istore hG (p1 := 19) (I_callV hG (p1 := 12) (p2 := 16) ok_X4_sungAt ckX4_57 ⟨rfl, rfl⟩ (by decide) rfl ⟨by decide, by decide⟩ (by decide) (R_aload_n hG dX4_voiceShifted_11 rfl (by decide)) (A_int hG (p1 := 16) (I_isub hG (p1 := 14) (p2 := 15) (I_iload hG dX4_voiceShifted_12 (by decide)) (I_iload_n hG dX4_voiceShifted_14 rfl (by decide)) dX4_voiceShifted_15) (A_nil hG)) dX4_voiceShifted_16) dX4_voiceShifted_19 (by decide)) (S_callV hG (p1 := 22) (p2 := 38) ok_X4_voiceAt ckX4_42 ⟨rfl, rfl⟩ (by decide) rfl ⟨by decide, by decide⟩ (R_aload_n hG dX4_voiceShifted_21 rfl (by decide)) (A_int hG (p1 := 24) (I_iload hG dX4_voiceShifted_22 (by decide)) (A_int hG (p1 := 38) (I_ternX hG (p1 := 30) (p3 := 34) (p4 := 38) (C_eq_F hG (p1 := 26) (p2 := 27) (tgt := 34) (I_iload hG dX4_voiceShifted_24 (by decide)) (I_iconst hG dX4_voiceShifted_26 (by decide) ⟨by decide, by decide⟩) dX4_voiceShifted_27 (by decide)) (I_goto hG (I_iconst hG dX4_voiceShifted_30 (by decide) ⟨by decide, by decide⟩) dX4_voiceShifted_31 (p2 := 38) (by decide)) (I_iadd hG (p1 := 36) (p2 := 37) (I_iload hG dX4_voiceShifted_34 (by decide)) (I_iload_n hG dX4_voiceShifted_36 rfl (by decide)) dX4_voiceShifted_37)) (A_nil hG))) dX4_voiceShifted_38)) (S_goto hG (p2 := 3) (S_iinc hG dX4_voiceShifted_41 (by decide)) dX4_voiceShifted_44 (by decide))))) (S_retV hG rfl dX4_voiceShifted_47)
abbrev rm_X6_pointsIfShifted : Room := { frames := 5, cells := 0, slots := 0, locals := 121 }
def B_X6_pointsIfShifted : ST := sSeq (sCallV 4 m_X4_voiceShifted (rF 6 1 (rL 0)) (aR (rF 6 0 (rL 0)) (aI (iL 1) (aI (iL 2) (aN))))) (sSeq (sCallV 1 m_X1_judge (rF 6 7 (rL 0)) (aR (rF 6 1 (rL 0)) (aN))) (sRet false (iF 1 11 (rF 6 7 (rL 0)))))
def m_X6_pointsIfShifted : Mt := mk0 3 B_X6_pointsIfShifted
set_option maxRecDepth 20000 in
theorem ok_X6_pointsIfShifted : MOkI yX6_pointsIfShifted cX6_pointsIfShifted 3 .int rm_X6_pointsIfShifted m_X6_pointsIfShifted := by
  unfold m_X6_pointsIfShifted
  refine MOkI_mk0 (pe := 32) (by decide +kernel) (by decide) (by decide) ⟨rfl, rfl⟩ (fun Rt G hG => ?_)
  have hG : Mach RX6 cX6_pointsIfShifted 3 "pointsIfShifted" rm_X6_pointsIfShifted (some .int) 3 0 (fun _ => 0) Rt G := hG
  unfold B_X6_pointsIfShifted
  exact S_seq hG (p1 := 13) (S_callV hG (p1 := 4) (p2 := 10) ok_X4_voiceShifted ckX6_254 ⟨rfl, rfl⟩ (by decide) rfl ⟨by decide, by decide⟩ (R_getf hG foX6_16 (p1 := 1) (R_aload_n hG dX6_pointsIfShifted_0 rfl (by decide)) dX6_pointsIfShifted_1) (A_ref hG (p1 := 8) (R_getf hG foX6_10 (p1 := 5) (R_aload_n hG dX6_pointsIfShifted_4 rfl (by decide)) dX6_pointsIfShifted_5) (A_int hG (p1 := 9) (I_iload_n hG dX6_pointsIfShifted_8 rfl (by decide)) (A_int hG (p1 := 10) (I_iload_n hG dX6_pointsIfShifted_9 rfl (by decide)) (A_nil hG)))) dX6_pointsIfShifted_10) (S_seq hG (p1 := 24) (S_callV hG (p1 := 17) (p2 := 21) ok_X1_judge ckX6_152 ⟨rfl, rfl⟩ (by decide) rfl ⟨by decide, by decide⟩ (R_getf hG foX6_50 (p1 := 14) (R_aload_n hG dX6_pointsIfShifted_13 rfl (by decide)) dX6_pointsIfShifted_14) (A_ref hG (p1 := 21) (R_getf hG foX6_16 (p1 := 18) (R_aload_n hG dX6_pointsIfShifted_17 rfl (by decide)) dX6_pointsIfShifted_18) (A_nil hG)) dX6_pointsIfShifted_21) (S_ret hG (p1 := 31) rfl rfl (I_getf hG foX6_248 (p1 := 28) (R_getf hG foX6_50 (p1 := 25) (R_aload_n hG dX6_pointsIfShifted_24 rfl (by decide)) dX6_pointsIfShifted_25) dX6_pointsIfShifted_28) dX6_pointsIfShifted_31))
abbrev rm_X6_ifShifted : Room := { frames := 6, cells := 0, slots := 0, locals := 143 }
def B_X6_ifShifted : ST := sSeq (sIf1 (cOr (cNot (cNe (iCallS m_X6_isWithin (aI (iL 1) (aI (iC (-32)) (aI (iC 32) (aN))))) (iC 0))) (cNot (cNe (iCallS m_X6_isWithin (aI (iL 2) (aI (iC (-60)) (aI (iC 60) (aN))))) (iC 0)))) (sRet false (iC (-2)))) (sSeq (sCallV 4 m_X4_copyFrom (rF 6 1 (rL 0)) (aR (rF 6 0 (rL 0)) (aN))) (sRet false (iCallV 6 m_X6_pointsIfShifted (rL 0) (aI (iL 1) (aI (iL 2) (aN))))))
def m_X6_ifShifted : Mt := mk0 3 B_X6_ifShifted
set_option maxRecDepth 20000 in
theorem ok_X6_ifShifted : MOkI yX6_ifShifted cX6_ifShifted 3 .int rm_X6_ifShifted m_X6_ifShifted := by
  unfold m_X6_ifShifted
  refine MOkI_mk0 (pe := 43) (by decide +kernel) (by decide) (by decide) ⟨rfl, rfl⟩ (fun Rt G hG => ?_)
  have hG : Mach RX6 cX6_ifShifted 3 "ifShifted" rm_X6_ifShifted (some .int) 3 0 (fun _ => 0) Rt G := hG
  unfold B_X6_ifShifted
  exact S_seq hG (p1 := 25) (S_if1 hG (p1 := 22) (p2 := 25) (C_or hG (p1 := 11) (C_not hG (C_ne_F0 hG (p1 := 8) (tgt := 22) (I_callS hG (p2 := 5) ok_X6_isWithin ckX6_54 ⟨rfl, rfl⟩ ⟨by decide, by decide⟩ (by decide) (A_int hG (p1 := 1) (I_iload_n hG dX6_ifShifted_0 rfl (by decide)) (A_int hG (p1 := 3) (I_bipush hG dX6_ifShifted_1 (by decide) ⟨by decide, by decide⟩) (A_int hG (p1 := 5) (I_bipush hG dX6_ifShifted_3 (by decide) ⟨by decide, by decide⟩) (A_nil hG)))) dX6_ifShifted_5) dX6_ifShifted_8 (by decide))) (C_not hG (C_ne_T0 hG (p1 := 19) (tgt := 25) (I_callS hG (p2 := 16) ok_X6_isWithin ckX6_54 ⟨rfl, rfl⟩ ⟨by decide, by decide⟩ (by decide) (A_int hG (p1 := 12) (I_iload_n hG dX6_ifShifted_11 rfl (by decide)) (A_int hG (p1 := 14) (I_bipush hG dX6_ifShifted_12 (by decide) ⟨by decide, by decide⟩) (A_int hG (p1 := 16) (I_bipush hG dX6_ifShifted_14 (by decide) ⟨by decide, by decide⟩) (A_nil hG)))) dX6_ifShifted_16) dX6_ifShifted_19 (by decide)))) (S_ret hG (p1 := 24) rfl rfl (I_bipush hG dX6_ifShifted_22 (by decide) ⟨by decide, by decide⟩) dX6_ifShifted_24)) (S_seq hG (p1 := 36) (S_callV hG (p1 := 29) (p2 := 33) ok_X4_copyFrom ckX6_150 ⟨rfl, rfl⟩ (by decide) rfl ⟨by decide, by decide⟩ (R_getf hG foX6_16 (p1 := 26) (R_aload_n hG dX6_ifShifted_25 rfl (by decide)) dX6_ifShifted_26) (A_ref hG (p1 := 33) (R_getf hG foX6_10 (p1 := 30) (R_aload_n hG dX6_ifShifted_29 rfl (by decide)) dX6_ifShifted_30) (A_nil hG)) dX6_ifShifted_33) (S_ret hG (p1 := 42) rfl rfl (I_callV hG (p1 := 37) (p2 := 39) ok_X6_pointsIfShifted ckX6_235 ⟨rfl, rfl⟩ (by decide) rfl ⟨by decide, by decide⟩ (by decide) (R_aload_n hG dX6_ifShifted_36 rfl (by decide)) (A_int hG (p1 := 38) (I_iload_n hG dX6_ifShifted_37 rfl (by decide)) (A_int hG (p1 := 39) (I_iload_n hG dX6_ifShifted_38 rfl (by decide)) (A_nil hG))) dX6_ifShifted_39) dX6_ifShifted_42))
abbrev rm_X6_bestShift : Room := { frames := 6, cells := 0, slots := 0, locals := 143 }
def B_X6_bestShift : ST := sSeq (sCallV 4 m_X4_copyFrom (rF 6 1 (rL 0)) (aR (rF 6 0 (rL 0)) (aN))) (sSeq (sLoc 1 (iC 0)) (sSeq (sLoc 2 (iCallV 6 m_X6_pointsIfShifted (rL 0) (aI (iC 0) (aI (iC 0) (aN))))) (sSeq (sSeq (sLoc 3 (iC 1)) (sWhile (cLe (iL 3) (iC 32)) (sSeq (sSeq (sLoc 4 (iCallV 6 m_X6_pointsIfShifted (rL 0) (aI (iNeg (iL 3)) (aI (iC 0) (aN))))) (sSeq (sIf1 (cGt (iL 4) (iL 2)) (sSeq (sLoc 2 (iL 4)) (sLoc 1 (iNeg (iL 3))))) (sSeq (sLoc 5 (iCallV 6 m_X6_pointsIfShifted (rL 0) (aI (iL 3) (aI (iC 0) (aN))))) (sIf1 (cGt (iL 5) (iL 2)) (sSeq (sLoc 2 (iL 5)) (sLoc 1 (iL 3))))))) (sInc 3 1)))) (sRet false (iAdd (iL 1) (iC 32))))))
def m_X6_bestShift : Mt := mk0 1 B_X6_bestShift
set_option maxRecDepth 20000 in
theorem ok_X6_bestShift : MOkI yX6_bestShift cX6_bestShift 6 .int rm_X6_bestShift m_X6_bestShift := by
  unfold m_X6_bestShift
  refine MOkI_mk0 (pe := 79) (by decide +kernel) (by decide) (by decide) ⟨rfl, rfl⟩ (fun Rt G hG => ?_)
  have hG : Mach RX6 cX6_bestShift 6 "bestShift" rm_X6_bestShift (some .int) 3 0 (fun _ => 0) Rt G := hG
  unfold B_X6_bestShift
  exact S_seq hG (p1 := 11) (S_callV hG (p1 := 4) (p2 := 8) ok_X4_copyFrom ckX6_150 ⟨rfl, rfl⟩ (by decide) rfl ⟨by decide, by decide⟩ (R_getf hG foX6_16 (p1 := 1) (R_aload_n hG dX6_bestShift_0 rfl (by decide)) dX6_bestShift_1) (A_ref hG (p1 := 8) (R_getf hG foX6_10 (p1 := 5) (R_aload_n hG dX6_bestShift_4 rfl (by decide)) dX6_bestShift_5) (A_nil hG)) dX6_bestShift_8) (S_seq hG (p1 := 13) (S_istore_n hG (p1 := 12) (I_iconst hG dX6_bestShift_11 (by decide) ⟨by decide, by decide⟩) dX6_bestShift_12 rfl (by decide)) (S_seq hG (p1 := 20) (S_istore_n hG (p1 := 19) (I_callV hG (p1 := 14) (p2 := 16) ok_X6_pointsIfShifted ckX6_235 ⟨rfl, rfl⟩ (by decide) rfl ⟨by decide, by decide⟩ (by decide) (R_aload_n hG dX6_bestShift_13 rfl (by decide)) (A_int hG (p1 := 15) (I_iconst hG dX6_bestShift_14 (by decide) ⟨by decide, by decide⟩) (A_int hG (p1 := 16) (I_iconst hG dX6_bestShift_15 (by decide) ⟨by decide, by decide⟩) (A_nil hG))) dX6_bestShift_16) dX6_bestShift_19 rfl (by decide)) (S_seq hG (p1 := 74) (S_seq hG (p1 := 22) (S_istore_n hG (p1 := 21) (I_iconst hG dX6_bestShift_20 (by decide) ⟨by decide, by decide⟩) dX6_bestShift_21 rfl (by decide)) (S_while hG (p1 := 28) (p2 := 74) (C_le_F hG (p1 := 23) (p2 := 25) (tgt := 74) (I_iload_n hG dX6_bestShift_22 rfl (by decide)) (I_bipush hG dX6_bestShift_23 (by decide) ⟨by decide, by decide⟩) dX6_bestShift_25 (by decide)) (S_seq hG (p1 := 68) (S_seq hG (p1 := 37) (S_istore hG (p1 := 35) (I_callV hG (p1 := 29) (p2 := 32) ok_X6_pointsIfShifted ckX6_235 ⟨rfl, rfl⟩ (by decide) rfl ⟨by decide, by decide⟩ (by decide) (R_aload_n hG dX6_bestShift_28 rfl (by decide)) (A_int hG (p1 := 31) (I_ineg hG (p1 := 30) (I_iload_n hG dX6_bestShift_29 rfl (by decide)) dX6_bestShift_30) (A_int hG (p1 := 32) (I_iconst hG dX6_bestShift_31 (by decide) ⟨by decide, by decide⟩) (A_nil hG))) dX6_bestShift_32) dX6_bestShift_35 (by decide)) (S_seq hG (p1 := 49) (S_if1 hG (p1 := 43) (p2 := 49) (C_gt_F hG (p1 := 39) (p2 := 40) (tgt := 49) (I_iload hG dX6_bestShift_37 (by decide)) (I_iload_n hG dX6_bestShift_39 rfl (by decide)) dX6_bestShift_40 (by decide)) (S_seq hG (p1 := 46) (S_istore_n hG (p1 := 45) (I_iload hG dX6_bestShift_43 (by decide)) dX6_bestShift_45 rfl (by decide)) (S_istore_n hG (p1 := 48) (I_ineg hG (p1 := 47) (I_iload_n hG dX6_bestShift_46 rfl (by decide)) dX6_bestShift_47) dX6_bestShift_48 rfl (by decide)))) (S_seq hG (p1 := 57) (S_istore hG (p1 := 55) (I_callV hG (p1 := 50) (p2 := 52) ok_X6_pointsIfShifted ckX6_235 ⟨rfl, rfl⟩ (by decide) rfl ⟨by decide, by decide⟩ (by decide) (R_aload_n hG dX6_bestShift_49 rfl (by decide)) (A_int hG (p1 := 51) (I_iload_n hG dX6_bestShift_50 rfl (by decide)) (A_int hG (p1 := 52) (I_iconst hG dX6_bestShift_51 (by decide) ⟨by decide, by decide⟩) (A_nil hG))) dX6_bestShift_52) dX6_bestShift_55 (by decide)) (S_if1 hG (p1 := 63) (p2 := 68) (C_gt_F hG (p1 := 59) (p2 := 60) (tgt := 68) (I_iload hG dX6_bestShift_57 (by decide)) (I_iload_n hG dX6_bestShift_59 rfl (by decide)) dX6_bestShift_60 (by decide)) (S_seq hG (p1 := 66) (S_istore_n hG (p1 := 65) (I_iload hG dX6_bestShift_63 (by decide)) dX6_bestShift_65 rfl (by decide)) (S_istore_n hG (p1 := 67) (I_iload_n hG dX6_bestShift_66 rfl (by decide)) dX6_bestShift_67 rfl (by decide))))))) (S_goto hG (p2 := 22) (S_iinc hG dX6_bestShift_68 (by decide)) dX6_bestShift_71 (by decide))))) (S_ret hG (p1 := 78) rfl rfl (I_iadd hG (p1 := 75) (p2 := 77) (I_iload_n hG dX6_bestShift_74 rfl (by decide)) (I_bipush hG dX6_bestShift_75 (by decide) ⟨by decide, by decide⟩) dX6_bestShift_77) dX6_bestShift_78))))
abbrev rm_X6_ifSet : Room := { frames := 6, cells := 0, slots := 0, locals := 142 }
def B_X6_ifSet : ST := sSeq (sIf1 (cNot (cNe (iCallS m_X6_isSetting (aI (iL 1) (aN))) (iC 0))) (sRet false (iC (-1)))) (sSeq (sIf1 (cNot (cNe (iCallS m_X6_isValueOf (aI (iL 1) (aI (iL 2) (aN)))) (iC 0))) (sRet false (iC (-2)))) (sSeq (sCallV 4 m_X4_copyFrom (rF 6 1 (rL 0)) (aR (rF 6 0 (rL 0)) (aN))) (sSeq (sCallV 4 m_X4_change (rF 6 1 (rL 0)) (aI (iL 1) (aI (iL 2) (aN)))) (sRet false (iCallV 6 m_X6_pointsOf (rL 0) (aR (rF 6 1 (rL 0)) (aN)))))))
def m_X6_ifSet : Mt := mk0 3 B_X6_ifSet
set_option maxRecDepth 20000 in
theorem ok_X6_ifSet : MOkI yX6_ifSet cX6_ifSet 3 .int rm_X6_ifSet m_X6_ifSet := by
  unfold m_X6_ifSet
  refine MOkI_mk0 (pe := 49) (by decide +kernel) (by decide) (by decide) ⟨rfl, rfl⟩ (fun Rt G hG => ?_)
  have hG : Mach RX6 cX6_ifSet 3 "ifSet" rm_X6_ifSet (some .int) 3 0 (fun _ => 0) Rt G := hG
  unfold B_X6_ifSet
  exact S_seq hG (p1 := 9) (S_if1 hG (p1 := 7) (p2 := 9) (C_not hG (C_ne_T0 hG (p1 := 4) (tgt := 9) (I_callS hG (p2 := 1) ok_X6_isSetting ckX6_101 ⟨rfl, rfl⟩ ⟨by decide, by decide⟩ (by decide) (A_int hG (p1 := 1) (I_iload_n hG dX6_ifSet_0 rfl (by decide)) (A_nil hG)) dX6_ifSet_1) dX6_ifSet_4 (by decide))) (S_ret hG (p1 := 8) rfl rfl (I_iconst hG dX6_ifSet_7 (by decide) ⟨by decide, by decide⟩) dX6_ifSet_8)) (S_seq hG (p1 := 20) (S_if1 hG (p1 := 17) (p2 := 20) (C_not hG (C_ne_T0 hG (p1 := 14) (tgt := 20) (I_callS hG (p2 := 11) ok_X6_isValueOf ckX6_105 ⟨rfl, rfl⟩ ⟨by decide, by decide⟩ (by decide) (A_int hG (p1 := 10) (I_iload_n hG dX6_ifSet_9 rfl (by decide)) (A_int hG (p1 := 11) (I_iload_n hG dX6_ifSet_10 rfl (by decide)) (A_nil hG))) dX6_ifSet_11) dX6_ifSet_14 (by decide))) (S_ret hG (p1 := 19) rfl rfl (I_bipush hG dX6_ifSet_17 (by decide) ⟨by decide, by decide⟩) dX6_ifSet_19)) (S_seq hG (p1 := 31) (S_callV hG (p1 := 24) (p2 := 28) ok_X4_copyFrom ckX6_150 ⟨rfl, rfl⟩ (by decide) rfl ⟨by decide, by decide⟩ (R_getf hG foX6_16 (p1 := 21) (R_aload_n hG dX6_ifSet_20 rfl (by decide)) dX6_ifSet_21) (A_ref hG (p1 := 28) (R_getf hG foX6_10 (p1 := 25) (R_aload_n hG dX6_ifSet_24 rfl (by decide)) dX6_ifSet_25) (A_nil hG)) dX6_ifSet_28) (S_seq hG (p1 := 40) (S_callV hG (p1 := 35) (p2 := 37) ok_X4_change ckX6_112 ⟨rfl, rfl⟩ (by decide) rfl ⟨by decide, by decide⟩ (R_getf hG foX6_16 (p1 := 32) (R_aload_n hG dX6_ifSet_31 rfl (by decide)) dX6_ifSet_32) (A_int hG (p1 := 36) (I_iload_n hG dX6_ifSet_35 rfl (by decide)) (A_int hG (p1 := 37) (I_iload_n hG dX6_ifSet_36 rfl (by decide)) (A_nil hG))) dX6_ifSet_37) (S_ret hG (p1 := 48) rfl rfl (I_callV hG (p1 := 41) (p2 := 45) ok_X6_pointsOf ckX6_229 ⟨rfl, rfl⟩ (by decide) rfl ⟨by decide, by decide⟩ (by decide) (R_aload_n hG dX6_ifSet_40 rfl (by decide)) (A_ref hG (p1 := 45) (R_getf hG foX6_16 (p1 := 42) (R_aload_n hG dX6_ifSet_41 rfl (by decide)) dX6_ifSet_42) (A_nil hG)) dX6_ifSet_45) dX6_ifSet_48))))
abbrev rm_X6_worst : Room := { frames := 5, cells := 0, slots := 0, locals := 121 }
def B_X6_worst : ST := sSeq (sLoc 1 (iCallV 3 m_X3_phraseCount (rF 4 0 (rF 6 0 (rL 0))) (aN))) (sSeq (sIf1 (cEq (iL 1) (iC 0)) (sRet false (iC (-5)))) (sSeq (sCallV 1 m_X1_judge (rF 6 7 (rL 0)) (aR (rF 6 0 (rL 0)) (aN))) (sSeq (sLoc 2 (iC 0)) (sSeq (sSeq (sLoc 3 (iC 1)) (sWhile (cLt (iL 3) (iL 1)) (sSeq (sIf1 (cLt (iCallV 1 m_X1_phrasePointsOf (rF 6 7 (rL 0)) (aI (iL 3) (aN))) (iCallV 1 m_X1_phrasePointsOf (rF 6 7 (rL 0)) (aI (iL 2) (aN)))) (sLoc 2 (iL 3))) (sInc 3 1)))) (sRet false (iL 2))))))
def m_X6_worst : Mt := mk0 1 B_X6_worst
set_option maxRecDepth 20000 in
theorem ok_X6_worst : MOkI yX6_worst cX6_worst 4 .int rm_X6_worst m_X6_worst := by
  unfold m_X6_worst
  refine MOkI_mk0 (pe := 67) (by decide +kernel) (by decide) (by decide) ⟨rfl, rfl⟩ (fun Rt G hG => ?_)
  have hG : Mach RX6 cX6_worst 4 "worst" rm_X6_worst (some .int) 3 0 (fun _ => 0) Rt G := hG
  unfold B_X6_worst
  exact S_seq hG (p1 := 11) (S_istore_n hG (p1 := 10) (I_callV hG (p1 := 7) (p2 := 7) ok_X3_phraseCount ckX6_205 ⟨rfl, rfl⟩ (by decide) rfl ⟨by decide, by decide⟩ (by decide) (R_getf hG foX6_58 (p1 := 4) (R_getf hG foX6_10 (p1 := 1) (R_aload_n hG dX6_worst_0 rfl (by decide)) dX6_worst_1) dX6_worst_4) (A_nil hG) dX6_worst_7) dX6_worst_10 rfl (by decide)) (S_seq hG (p1 := 18) (S_if1 hG (p1 := 15) (p2 := 18) (C_eq_F0 hG (p1 := 12) (tgt := 18) (I_iload_n hG dX6_worst_11 rfl (by decide)) dX6_worst_12 (by decide)) (S_ret hG (p1 := 17) rfl rfl (I_bipush hG dX6_worst_15 (by decide) ⟨by decide, by decide⟩) dX6_worst_17)) (S_seq hG (p1 := 29) (S_callV hG (p1 := 22) (p2 := 26) ok_X1_judge ckX6_152 ⟨rfl, rfl⟩ (by decide) rfl ⟨by decide, by decide⟩ (R_getf hG foX6_50 (p1 := 19) (R_aload_n hG dX6_worst_18 rfl (by decide)) dX6_worst_19) (A_ref hG (p1 := 26) (R_getf hG foX6_10 (p1 := 23) (R_aload_n hG dX6_worst_22 rfl (by decide)) dX6_worst_23) (A_nil hG)) dX6_worst_26) (S_seq hG (p1 := 31) (S_istore_n hG (p1 := 30) (I_iconst hG dX6_worst_29 (by decide) ⟨by decide, by decide⟩) dX6_worst_30 rfl (by decide)) (S_seq hG (p1 := 65) (S_seq hG (p1 := 33) (S_istore_n hG (p1 := 32) (I_iconst hG dX6_worst_31 (by decide) ⟨by decide, by decide⟩) dX6_worst_32 rfl (by decide)) (S_while hG (p1 := 38) (p2 := 65) (C_lt_F hG (p1 := 34) (p2 := 35) (tgt := 65) (I_iload_n hG dX6_worst_33 rfl (by decide)) (I_iload_n hG dX6_worst_34 rfl (by decide)) dX6_worst_35 (by decide)) (S_seq hG (p1 := 59) (S_if1 hG (p1 := 57) (p2 := 59) (C_lt_F hG (p1 := 46) (p2 := 54) (tgt := 59) (I_callV hG (p1 := 42) (p2 := 43) ok_X1_phrasePointsOf ckX6_217 ⟨rfl, rfl⟩ (by decide) rfl ⟨by decide, by decide⟩ (by decide) (R_getf hG foX6_50 (p1 := 39) (R_aload_n hG dX6_worst_38 rfl (by decide)) dX6_worst_39) (A_int hG (p1 := 43) (I_iload_n hG dX6_worst_42 rfl (by decide)) (A_nil hG)) dX6_worst_43) (I_callV hG (p1 := 50) (p2 := 51) ok_X1_phrasePointsOf ckX6_217 ⟨rfl, rfl⟩ (by decide) rfl ⟨by decide, by decide⟩ (by decide) (R_getf hG foX6_50 (p1 := 47) (R_aload_n hG dX6_worst_46 rfl (by decide)) dX6_worst_47) (A_int hG (p1 := 51) (I_iload_n hG dX6_worst_50 rfl (by decide)) (A_nil hG)) dX6_worst_51) dX6_worst_54 (by decide)) (S_istore_n hG (p1 := 58) (I_iload_n hG dX6_worst_57 rfl (by decide)) dX6_worst_58 rfl (by decide))) (S_goto hG (p2 := 33) (S_iinc hG dX6_worst_59 (by decide)) dX6_worst_62 (by decide))))) (S_ret hG (p1 := 66) rfl rfl (I_iload_n hG dX6_worst_65 rfl (by decide)) dX6_worst_66)))))
end
