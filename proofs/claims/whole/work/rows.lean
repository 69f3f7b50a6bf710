section
-- ===== PART A: goes FIRST, ahead of the names: the tables' words, and 'selects' of the private methods out of them =====
/-- a private method of a class that the tables say can be made, by its rows of tables_1 -/
def lw_okq (q : MethodName × Nat) : Prop := (q.1.cls ≠ "java/lang/invoke/MethodHandle" ∧ q.1.cls ≠ "java/lang/invoke/VarHandle") ∧ Cond.instantiable q.1.cls q.2 ∈ tables_1 ∧ Cond.privateMethod q.1 ∈ tables_1 ∧ Cond.instanceMethod q.1 ∈ tables_1
theorem lw_p0 : lw_okq (⟨"SungSlides$History", "dropOldest", "()V"⟩, 2) := ⟨⟨by decide +kernel, by decide +kernel⟩, List.mem_of_getElem? (i := 69) (by decide +kernel), List.mem_of_getElem? (i := 219) (by decide +kernel), List.mem_of_getElem? (i := 220) (by decide +kernel)⟩
theorem lw_p1 : lw_okq (⟨"SungSlides$Reader", "readSyllable", "(LSungSlides$Song;LSungSlides$Text;Z)Z"⟩, 3) := ⟨⟨by decide +kernel, by decide +kernel⟩, List.mem_of_getElem? (i := 99) (by decide +kernel), List.mem_of_getElem? (i := 269) (by decide +kernel), List.mem_of_getElem? (i := 270) (by decide +kernel)⟩
theorem lw_p2 : lw_okq (⟨"SungSlides$Reader", "skip", "(LSungSlides$Text;C)Z"⟩, 3) := ⟨⟨by decide +kernel, by decide +kernel⟩, List.mem_of_getElem? (i := 99) (by decide +kernel), List.mem_of_getElem? (i := 273) (by decide +kernel), List.mem_of_getElem? (i := 274) (by decide +kernel)⟩
theorem lw_p3 : lw_okq (⟨"SungSlides$Reader", "readNumber", "(LSungSlides$Text;II)I"⟩, 3) := ⟨⟨by decide +kernel, by decide +kernel⟩, List.mem_of_getElem? (i := 99) (by decide +kernel), List.mem_of_getElem? (i := 282) (by decide +kernel), List.mem_of_getElem? (i := 283) (by decide +kernel)⟩
theorem lw_p4 : lw_okq (⟨"SungSlides", "hitsNow", "()I"⟩, 8) := ⟨⟨by decide +kernel, by decide +kernel⟩, List.mem_of_getElem? (i := 12) (by decide +kernel), List.mem_of_getElem? (i := 335) (by decide +kernel), List.mem_of_getElem? (i := 336) (by decide +kernel)⟩
theorem lw_p5 : lw_okq (⟨"SungSlides$Judge", "hear", "(LSungSlides$State;I)V"⟩, 12) := ⟨⟨by decide +kernel, by decide +kernel⟩, List.mem_of_getElem? (i := 118) (by decide +kernel), List.mem_of_getElem? (i := 344) (by decide +kernel), List.mem_of_getElem? (i := 345) (by decide +kernel)⟩
theorem lw_p6 : lw_okq (⟨"SungSlides$Judge", "reasonFor", "(III)I"⟩, 12) := ⟨⟨by decide +kernel, by decide +kernel⟩, List.mem_of_getElem? (i := 118) (by decide +kernel), List.mem_of_getElem? (i := 391) (by decide +kernel), List.mem_of_getElem? (i := 392) (by decide +kernel)⟩
theorem lw_p7 : lw_okq (⟨"SungSlides$Judge", "score", "(LSungSlides$Song;)V"⟩, 12) := ⟨⟨by decide +kernel, by decide +kernel⟩, List.mem_of_getElem? (i := 118) (by decide +kernel), List.mem_of_getElem? (i := 410) (by decide +kernel), List.mem_of_getElem? (i := 411) (by decide +kernel)⟩
theorem lw_p8 : lw_okq (⟨"SungSlides$Judge", "beginPhrase", "(I)V"⟩, 12) := ⟨⟨by decide +kernel, by decide +kernel⟩, List.mem_of_getElem? (i := 118) (by decide +kernel), List.mem_of_getElem? (i := 419) (by decide +kernel), List.mem_of_getElem? (i := 420) (by decide +kernel)⟩
theorem lw_p9 : lw_okq (⟨"SungSlides$Judge", "scoreOf", "(LSungSlides$Song;I)I"⟩, 12) := ⟨⟨by decide +kernel, by decide +kernel⟩, List.mem_of_getElem? (i := 118) (by decide +kernel), List.mem_of_getElem? (i := 424) (by decide +kernel), List.mem_of_getElem? (i := 425) (by decide +kernel)⟩
theorem lw_p10 : lw_okq (⟨"SungSlides", "pointsOf", "(LSungSlides$State;)I"⟩, 8) := ⟨⟨by decide +kernel, by decide +kernel⟩, List.mem_of_getElem? (i := 12) (by decide +kernel), List.mem_of_getElem? (i := 576) (by decide +kernel), List.mem_of_getElem? (i := 577) (by decide +kernel)⟩
theorem lw_p11 : lw_okq (⟨"SungSlides", "mostPoints", "()I"⟩, 8) := ⟨⟨by decide +kernel, by decide +kernel⟩, List.mem_of_getElem? (i := 12) (by decide +kernel), List.mem_of_getElem? (i := 580) (by decide +kernel), List.mem_of_getElem? (i := 581) (by decide +kernel)⟩
theorem lw_p12 : lw_okq (⟨"SungSlides", "pointsIfShifted", "(II)I"⟩, 8) := ⟨⟨by decide +kernel, by decide +kernel⟩, List.mem_of_getElem? (i := 12) (by decide +kernel), List.mem_of_getElem? (i := 594) (by decide +kernel), List.mem_of_getElem? (i := 595) (by decide +kernel)⟩
theorem lw_p13 : lw_okq (⟨"SungSlidesModel", "addError", "(III)I"⟩, 16) := ⟨⟨by decide +kernel, by decide +kernel⟩, List.mem_of_getElem? (i := 614) (by decide +kernel), List.mem_of_getElem? (i := 679) (by decide +kernel), List.mem_of_getElem? (i := 680) (by decide +kernel)⟩
theorem lw_p14 : lw_okq (⟨"SungSlidesModel", "endOfSong", "()I"⟩, 16) := ⟨⟨by decide +kernel, by decide +kernel⟩, List.mem_of_getElem? (i := 614) (by decide +kernel), List.mem_of_getElem? (i := 683) (by decide +kernel), List.mem_of_getElem? (i := 684) (by decide +kernel)⟩
theorem lw_p15 : lw_okq (⟨"SungSlidesModel", "behind", "(I)I"⟩, 16) := ⟨⟨by decide +kernel, by decide +kernel⟩, List.mem_of_getElem? (i := 614) (by decide +kernel), List.mem_of_getElem? (i := 687) (by decide +kernel), List.mem_of_getElem? (i := 688) (by decide +kernel)⟩
def lw_privs_1 : List (MethodName × Nat) := [(⟨"SungSlides$History", "dropOldest", "()V"⟩, 2), (⟨"SungSlides$Reader", "readSyllable", "(LSungSlides$Song;LSungSlides$Text;Z)Z"⟩, 3), (⟨"SungSlides$Reader", "skip", "(LSungSlides$Text;C)Z"⟩, 3), (⟨"SungSlides$Reader", "readNumber", "(LSungSlides$Text;II)I"⟩, 3), (⟨"SungSlides", "hitsNow", "()I"⟩, 8), (⟨"SungSlides$Judge", "hear", "(LSungSlides$State;I)V"⟩, 12), (⟨"SungSlides$Judge", "reasonFor", "(III)I"⟩, 12), (⟨"SungSlides$Judge", "score", "(LSungSlides$Song;)V"⟩, 12), (⟨"SungSlides$Judge", "beginPhrase", "(I)V"⟩, 12), (⟨"SungSlides$Judge", "scoreOf", "(LSungSlides$Song;I)I"⟩, 12), (⟨"SungSlides", "pointsOf", "(LSungSlides$State;)I"⟩, 8), (⟨"SungSlides", "mostPoints", "()I"⟩, 8), (⟨"SungSlides", "pointsIfShifted", "(II)I"⟩, 8), (⟨"SungSlidesModel", "addError", "(III)I"⟩, 16), (⟨"SungSlidesModel", "endOfSong", "()I"⟩, 16), (⟨"SungSlidesModel", "behind", "(I)I"⟩, 16)]
theorem lw_r1 : ∀ q ∈ lw_privs_1, lw_okq q := List.forall_mem_cons.mpr ⟨lw_p0, List.forall_mem_cons.mpr ⟨lw_p1, List.forall_mem_cons.mpr ⟨lw_p2, List.forall_mem_cons.mpr ⟨lw_p3, List.forall_mem_cons.mpr ⟨lw_p4, List.forall_mem_cons.mpr ⟨lw_p5, List.forall_mem_cons.mpr ⟨lw_p6, List.forall_mem_cons.mpr ⟨lw_p7, List.forall_mem_cons.mpr ⟨lw_p8, List.forall_mem_cons.mpr ⟨lw_p9, List.forall_mem_cons.mpr ⟨lw_p10, List.forall_mem_cons.mpr ⟨lw_p11, List.forall_mem_cons.mpr ⟨lw_p12, List.forall_mem_cons.mpr ⟨lw_p13, List.forall_mem_cons.mpr ⟨lw_p14, List.forall_mem_cons.mpr ⟨lw_p15, fun _ h => absurd h List.not_mem_nil⟩⟩⟩⟩⟩⟩⟩⟩⟩⟩⟩⟩⟩⟩⟩⟩
theorem lw_p16 : lw_okq (⟨"SungSlidesModel", "of", "(II)I"⟩, 16) := ⟨⟨by decide +kernel, by decide +kernel⟩, List.mem_of_getElem? (i := 614) (by decide +kernel), List.mem_of_getElem? (i := 691) (by decide +kernel), List.mem_of_getElem? (i := 692) (by decide +kernel)⟩
theorem lw_p17 : lw_okq (⟨"SungSlidesModel", "record", "()V"⟩, 16) := ⟨⟨by decide +kernel, by decide +kernel⟩, List.mem_of_getElem? (i := 614) (by decide +kernel), List.mem_of_getElem? (i := 695) (by decide +kernel), List.mem_of_getElem? (i := 696) (by decide +kernel)⟩
theorem lw_p18 : lw_okq (⟨"SungSlidesModel", "doAdd", "(IIIII)I"⟩, 16) := ⟨⟨by decide +kernel, by decide +kernel⟩, List.mem_of_getElem? (i := 614) (by decide +kernel), List.mem_of_getElem? (i := 702) (by decide +kernel), List.mem_of_getElem? (i := 703) (by decide +kernel)⟩
theorem lw_p19 : lw_okq (⟨"SungSlidesModel", "lay", "(III)V"⟩, 16) := ⟨⟨by decide +kernel, by decide +kernel⟩, List.mem_of_getElem? (i := 614) (by decide +kernel), List.mem_of_getElem? (i := 706) (by decide +kernel), List.mem_of_getElem? (i := 707) (by decide +kernel)⟩
theorem lw_p20 : lw_okq (⟨"SungSlidesModel", "judgeSong", "()V"⟩, 16) := ⟨⟨by decide +kernel, by decide +kernel⟩, List.mem_of_getElem? (i := 614) (by decide +kernel), List.mem_of_getElem? (i := 728) (by decide +kernel), List.mem_of_getElem? (i := 729) (by decide +kernel)⟩
theorem lw_p21 : lw_okq (⟨"SungSlidesModel", "hear", "(II)V"⟩, 16) := ⟨⟨by decide +kernel, by decide +kernel⟩, List.mem_of_getElem? (i := 614) (by decide +kernel), List.mem_of_getElem? (i := 732) (by decide +kernel), List.mem_of_getElem? (i := 733) (by decide +kernel)⟩
theorem lw_p22 : lw_okq (⟨"SungSlidesModel", "judge", "()V"⟩, 16) := ⟨⟨by decide +kernel, by decide +kernel⟩, List.mem_of_getElem? (i := 614) (by decide +kernel), List.mem_of_getElem? (i := 736) (by decide +kernel), List.mem_of_getElem? (i := 737) (by decide +kernel)⟩
theorem lw_p23 : lw_okq (⟨"SungSlidesModel", "matches", "(II)Z"⟩, 16) := ⟨⟨by decide +kernel, by decide +kernel⟩, List.mem_of_getElem? (i := 614) (by decide +kernel), List.mem_of_getElem? (i := 740) (by decide +kernel), List.mem_of_getElem? (i := 741) (by decide +kernel)⟩
theorem lw_p24 : lw_okq (⟨"SungSlidesModel", "wantedIn", "(II)I"⟩, 16) := ⟨⟨by decide +kernel, by decide +kernel⟩, List.mem_of_getElem? (i := 614) (by decide +kernel), List.mem_of_getElem? (i := 744) (by decide +kernel), List.mem_of_getElem? (i := 745) (by decide +kernel)⟩
theorem lw_p25 : lw_okq (⟨"SungSlidesModel", "nearestOnset", "(I)I"⟩, 16) := ⟨⟨by decide +kernel, by decide +kernel⟩, List.mem_of_getElem? (i := 614) (by decide +kernel), List.mem_of_getElem? (i := 751) (by decide +kernel), List.mem_of_getElem? (i := 752) (by decide +kernel)⟩
theorem lw_p26 : lw_okq (⟨"SungSlidesModel", "isOnset", "(I)Z"⟩, 16) := ⟨⟨by decide +kernel, by decide +kernel⟩, List.mem_of_getElem? (i := 614) (by decide +kernel), List.mem_of_getElem? (i := 755) (by decide +kernel), List.mem_of_getElem? (i := 756) (by decide +kernel)⟩
theorem lw_p27 : lw_okq (⟨"SungSlidesModel", "reasonOf", "(I)I"⟩, 16) := ⟨⟨by decide +kernel, by decide +kernel⟩, List.mem_of_getElem? (i := 614) (by decide +kernel), List.mem_of_getElem? (i := 759) (by decide +kernel), List.mem_of_getElem? (i := 760) (by decide +kernel)⟩
theorem lw_p28 : lw_okq (⟨"SungSlidesModel", "share", "(I)I"⟩, 16) := ⟨⟨by decide +kernel, by decide +kernel⟩, List.mem_of_getElem? (i := 614) (by decide +kernel), List.mem_of_getElem? (i := 763) (by decide +kernel), List.mem_of_getElem? (i := 764) (by decide +kernel)⟩
theorem lw_p29 : lw_okq (⟨"SungSlidesModel", "pointsOf", "(I)I"⟩, 16) := ⟨⟨by decide +kernel, by decide +kernel⟩, List.mem_of_getElem? (i := 614) (by decide +kernel), List.mem_of_getElem? (i := 767) (by decide +kernel), List.mem_of_getElem? (i := 768) (by decide +kernel)⟩
theorem lw_p30 : lw_okq (⟨"SungSlidesModel", "bars", "(IZ)I"⟩, 16) := ⟨⟨by decide +kernel, by decide +kernel⟩, List.mem_of_getElem? (i := 614) (by decide +kernel), List.mem_of_getElem? (i := 771) (by decide +kernel), List.mem_of_getElem? (i := 772) (by decide +kernel)⟩
theorem lw_p31 : lw_okq (⟨"SungSlidesModel", "hits", "()I"⟩, 16) := ⟨⟨by decide +kernel, by decide +kernel⟩, List.mem_of_getElem? (i := 614) (by decide +kernel), List.mem_of_getElem? (i := 775) (by decide +kernel), List.mem_of_getElem? (i := 776) (by decide +kernel)⟩
def lw_privs_2 : List (MethodName × Nat) := [(⟨"SungSlidesModel", "of", "(II)I"⟩, 16), (⟨"SungSlidesModel", "record", "()V"⟩, 16), (⟨"SungSlidesModel", "doAdd", "(IIIII)I"⟩, 16), (⟨"SungSlidesModel", "lay", "(III)V"⟩, 16), (⟨"SungSlidesModel", "judgeSong", "()V"⟩, 16), (⟨"SungSlidesModel", "hear", "(II)V"⟩, 16), (⟨"SungSlidesModel", "judge", "()V"⟩, 16), (⟨"SungSlidesModel", "matches", "(II)Z"⟩, 16), (⟨"SungSlidesModel", "wantedIn", "(II)I"⟩, 16), (⟨"SungSlidesModel", "nearestOnset", "(I)I"⟩, 16), (⟨"SungSlidesModel", "isOnset", "(I)Z"⟩, 16), (⟨"SungSlidesModel", "reasonOf", "(I)I"⟩, 16), (⟨"SungSlidesModel", "share", "(I)I"⟩, 16), (⟨"SungSlidesModel", "pointsOf", "(I)I"⟩, 16), (⟨"SungSlidesModel", "bars", "(IZ)I"⟩, 16), (⟨"SungSlidesModel", "hits", "()I"⟩, 16)]
theorem lw_r2 : ∀ q ∈ lw_privs_2, lw_okq q := List.forall_mem_cons.mpr ⟨lw_p16, List.forall_mem_cons.mpr ⟨lw_p17, List.forall_mem_cons.mpr ⟨lw_p18, List.forall_mem_cons.mpr ⟨lw_p19, List.forall_mem_cons.mpr ⟨lw_p20, List.forall_mem_cons.mpr ⟨lw_p21, List.forall_mem_cons.mpr ⟨lw_p22, List.forall_mem_cons.mpr ⟨lw_p23, List.forall_mem_cons.mpr ⟨lw_p24, List.forall_mem_cons.mpr ⟨lw_p25, List.forall_mem_cons.mpr ⟨lw_p26, List.forall_mem_cons.mpr ⟨lw_p27, List.forall_mem_cons.mpr ⟨lw_p28, List.forall_mem_cons.mpr ⟨lw_p29, List.forall_mem_cons.mpr ⟨lw_p30, List.forall_mem_cons.mpr ⟨lw_p31, fun _ h => absurd h List.not_mem_nil⟩⟩⟩⟩⟩⟩⟩⟩⟩⟩⟩⟩⟩⟩⟩⟩
theorem lw_p32 : lw_okq (⟨"SungSlidesModel", "isSyllable", "(I)Z"⟩, 16) := ⟨⟨by decide +kernel, by decide +kernel⟩, List.mem_of_getElem? (i := 614) (by decide +kernel), List.mem_of_getElem? (i := 787) (by decide +kernel), List.mem_of_getElem? (i := 788) (by decide +kernel)⟩
theorem lw_p33 : lw_okq (⟨"SungSlidesModel", "readText", "(Z)Z"⟩, 16) := ⟨⟨by decide +kernel, by decide +kernel⟩, List.mem_of_getElem? (i := 614) (by decide +kernel), List.mem_of_getElem? (i := 803) (by decide +kernel), List.mem_of_getElem? (i := 804) (by decide +kernel)⟩
theorem lw_p34 : lw_okq (⟨"SungSlidesModel", "readSyllable", "()Z"⟩, 16) := ⟨⟨by decide +kernel, by decide +kernel⟩, List.mem_of_getElem? (i := 614) (by decide +kernel), List.mem_of_getElem? (i := 807) (by decide +kernel), List.mem_of_getElem? (i := 808) (by decide +kernel)⟩
theorem lw_p35 : lw_okq (⟨"SungSlidesModel", "takes", "(I)Z"⟩, 16) := ⟨⟨by decide +kernel, by decide +kernel⟩, List.mem_of_getElem? (i := 614) (by decide +kernel), List.mem_of_getElem? (i := 811) (by decide +kernel), List.mem_of_getElem? (i := 812) (by decide +kernel)⟩
theorem lw_p36 : lw_okq (⟨"SungSlidesModel", "isNext", "(II)Z"⟩, 16) := ⟨⟨by decide +kernel, by decide +kernel⟩, List.mem_of_getElem? (i := 614) (by decide +kernel), List.mem_of_getElem? (i := 815) (by decide +kernel), List.mem_of_getElem? (i := 816) (by decide +kernel)⟩
theorem lw_p37 : lw_okq (⟨"SungSlidesModel", "readNumber", "(III)Z"⟩, 16) := ⟨⟨by decide +kernel, by decide +kernel⟩, List.mem_of_getElem? (i := 614) (by decide +kernel), List.mem_of_getElem? (i := 819) (by decide +kernel), List.mem_of_getElem? (i := 820) (by decide +kernel)⟩
theorem lw_p38 : lw_okq (⟨"SungSlidesModel", "phraseOf", "(I)I"⟩, 16) := ⟨⟨by decide +kernel, by decide +kernel⟩, List.mem_of_getElem? (i := 614) (by decide +kernel), List.mem_of_getElem? (i := 839) (by decide +kernel), List.mem_of_getElem? (i := 840) (by decide +kernel)⟩
theorem lw_p39 : lw_okq (⟨"SungSlidesModel", "syllableAt", "(I)I"⟩, 16) := ⟨⟨by decide +kernel, by decide +kernel⟩, List.mem_of_getElem? (i := 614) (by decide +kernel), List.mem_of_getElem? (i := 847) (by decide +kernel), List.mem_of_getElem? (i := 848) (by decide +kernel)⟩
theorem lw_p40 : lw_okq (⟨"SungSlidesModel", "phrases", "()I"⟩, 16) := ⟨⟨by decide +kernel, by decide +kernel⟩, List.mem_of_getElem? (i := 614) (by decide +kernel), List.mem_of_getElem? (i := 863) (by decide +kernel), List.mem_of_getElem? (i := 864) (by decide +kernel)⟩
theorem lw_p41 : lw_okq (⟨"SungSlidesModel", "ofPhrase", "(II)I"⟩, 16) := ⟨⟨by decide +kernel, by decide +kernel⟩, List.mem_of_getElem? (i := 614) (by decide +kernel), List.mem_of_getElem? (i := 867) (by decide +kernel), List.mem_of_getElem? (i := 868) (by decide +kernel)⟩
theorem lw_p42 : lw_okq (⟨"SungSlidesModel", "sungTicks", "()I"⟩, 16) := ⟨⟨by decide +kernel, by decide +kernel⟩, List.mem_of_getElem? (i := 614) (by decide +kernel), List.mem_of_getElem? (i := 875) (by decide +kernel), List.mem_of_getElem? (i := 876) (by decide +kernel)⟩
theorem lw_p43 : lw_okq (⟨"SungSlidesModel", "onsets", "()I"⟩, 16) := ⟨⟨by decide +kernel, by decide +kernel⟩, List.mem_of_getElem? (i := 614) (by decide +kernel), List.mem_of_getElem? (i := 879) (by decide +kernel), List.mem_of_getElem? (i := 880) (by decide +kernel)⟩
theorem lw_p44 : lw_okq (⟨"SungSlidesModel", "allPoints", "()I"⟩, 16) := ⟨⟨by decide +kernel, by decide +kernel⟩, List.mem_of_getElem? (i := 614) (by decide +kernel), List.mem_of_getElem? (i := 883) (by decide +kernel), List.mem_of_getElem? (i := 884) (by decide +kernel)⟩
theorem lw_p45 : lw_okq (⟨"SungSlidesModel", "mostPoints", "()I"⟩, 16) := ⟨⟨by decide +kernel, by decide +kernel⟩, List.mem_of_getElem? (i := 614) (by decide +kernel), List.mem_of_getElem? (i := 887) (by decide +kernel), List.mem_of_getElem? (i := 888) (by decide +kernel)⟩
theorem lw_p46 : lw_okq (⟨"SungSlidesModel", "pointsShifted", "(II)I"⟩, 16) := ⟨⟨by decide +kernel, by decide +kernel⟩, List.mem_of_getElem? (i := 614) (by decide +kernel), List.mem_of_getElem? (i := 895) (by decide +kernel), List.mem_of_getElem? (i := 896) (by decide +kernel)⟩
def lw_privs_3 : List (MethodName × Nat) := [(⟨"SungSlidesModel", "isSyllable", "(I)Z"⟩, 16), (⟨"SungSlidesModel", "readText", "(Z)Z"⟩, 16), (⟨"SungSlidesModel", "readSyllable", "()Z"⟩, 16), (⟨"SungSlidesModel", "takes", "(I)Z"⟩, 16), (⟨"SungSlidesModel", "isNext", "(II)Z"⟩, 16), (⟨"SungSlidesModel", "readNumber", "(III)Z"⟩, 16), (⟨"SungSlidesModel", "phraseOf", "(I)I"⟩, 16), (⟨"SungSlidesModel", "syllableAt", "(I)I"⟩, 16), (⟨"SungSlidesModel", "phrases", "()I"⟩, 16), (⟨"SungSlidesModel", "ofPhrase", "(II)I"⟩, 16), (⟨"SungSlidesModel", "sungTicks", "()I"⟩, 16), (⟨"SungSlidesModel", "onsets", "()I"⟩, 16), (⟨"SungSlidesModel", "allPoints", "()I"⟩, 16), (⟨"SungSlidesModel", "mostPoints", "()I"⟩, 16), (⟨"SungSlidesModel", "pointsShifted", "(II)I"⟩, 16)]
theorem lw_r3 : ∀ q ∈ lw_privs_3, lw_okq q := List.forall_mem_cons.mpr ⟨lw_p32, List.forall_mem_cons.mpr ⟨lw_p33, List.forall_mem_cons.mpr ⟨lw_p34, List.forall_mem_cons.mpr ⟨lw_p35, List.forall_mem_cons.mpr ⟨lw_p36, List.forall_mem_cons.mpr ⟨lw_p37, List.forall_mem_cons.mpr ⟨lw_p38, List.forall_mem_cons.mpr ⟨lw_p39, List.forall_mem_cons.mpr ⟨lw_p40, List.forall_mem_cons.mpr ⟨lw_p41, List.forall_mem_cons.mpr ⟨lw_p42, List.forall_mem_cons.mpr ⟨lw_p43, List.forall_mem_cons.mpr ⟨lw_p44, List.forall_mem_cons.mpr ⟨lw_p45, List.forall_mem_cons.mpr ⟨lw_p46, fun _ h => absurd h List.not_mem_nil⟩⟩⟩⟩⟩⟩⟩⟩⟩⟩⟩⟩⟩⟩⟩
def lw_privs : List (MethodName × Nat) := lw_privs_1 ++ (lw_privs_2 ++ (lw_privs_3))
def lw_tbl : List Cond := k2_sels lw_privs ++ tables_1
theorem lw_privs_ok : ∀ q ∈ lw_privs, lw_okq q := by
  show ∀ q ∈ lw_privs_1 ++ (lw_privs_2 ++ (lw_privs_3)), lw_okq q
  exact List.forall_mem_append.mpr ⟨lw_r1, List.forall_mem_append.mpr ⟨lw_r2, lw_r3⟩⟩

def RX0 : String := "SungSlides$History"
def TX0 : u_T := fun k => match k with
  | 0 => ("SungSlides$History", "states", "[LSungSlides$State;", true)
  | _ => ("SungSlides$History", "count", "I", false)
def tyX0 : Nat → FieldType := fun k => match k with
  | 0 => .array (.object "SungSlides$State")
  | _ => .int
abbrev wsX00 : List Cond := u_ws RX0 TX0 2
theorem nmX0 : ∀ a, a < 2 → ∀ b, b < 2 → a ≠ b → (TX0 a).2.1 ≠ (TX0 b).2.1 := by decide +kernel
theorem tyX0_ok : ∀ k, k < 2 → parseFieldDescriptor (TX0 k).2.2.1 = some (tyX0 k) := by decide +kernel
abbrev cX0_init : ByteArray := prog_2_method_1_code
def yX0_init : MethodName := ⟨RX0, "<init>", "()V"⟩
abbrev cX0_size : ByteArray := prog_2_method_2_code
def yX0_size : MethodName := ⟨RX0, "size", "()I"⟩
abbrev cX0_record : ByteArray := prog_2_method_3_code
def yX0_record : MethodName := ⟨RX0, "record", "(LSungSlides$State;)V"⟩
abbrev cX0_dropOldest : ByteArray := prog_2_method_4_code
def yX0_dropOldest : MethodName := ⟨RX0, "dropOldest", "()V"⟩
abbrev cX0_takeBackInto : ByteArray := prog_2_method_5_code
def yX0_takeBackInto : MethodName := ⟨RX0, "takeBackInto", "(LSungSlides$State;)I"⟩
def RX1 : String := "SungSlides$Judge"
def TX1 : u_T := fun k => match k with
  | 0 => ("SungSlides$Judge", "matches", "[I", true)
  | 1 => ("SungSlides$Judge", "shares", "[I", true)
  | 2 => ("SungSlides$Judge", "heldLines", "[I", true)
  | 3 => ("SungSlides$Judge", "onsets", "[I", true)
  | 4 => ("SungSlides$Judge", "reasons", "[I", true)
  | 5 => ("SungSlides$Judge", "rowsAhead", "[I", true)
  | 6 => ("SungSlides$Judge", "syllablePoints", "[I", true)
  | 7 => ("SungSlides$Judge", "phraseHits", "[I", true)
  | 8 => ("SungSlides$Judge", "phrasePoints", "[I", true)
  | 9 => ("SungSlides$Judge", "longestRows", "[I", true)
  | 10 => ("SungSlides$Judge", "hits", "I", false)
  | _ => ("SungSlides$Judge", "points", "I", false)
def tyX1 : Nat → FieldType := fun k => match k with
  | 0 => .array .int
  | 1 => .array .int
  | 2 => .array .int
  | 3 => .array .int
  | 4 => .array .int
  | 5 => .array .int
  | 6 => .array .int
  | 7 => .array .int
  | 8 => .array .int
  | 9 => .array .int
  | 10 => .int
  | _ => .int
abbrev wsX10 : List Cond := u_ws RX1 TX1 12
theorem nmX1 : ∀ a, a < 12 → ∀ b, b < 12 → a ≠ b → (TX1 a).2.1 ≠ (TX1 b).2.1 := by decide +kernel
theorem tyX1_ok : ∀ k, k < 12 → parseFieldDescriptor (TX1 k).2.2.1 = some (tyX1 k) := by decide +kernel
abbrev cX1_init : ByteArray := prog_3_method_1_code
def yX1_init : MethodName := ⟨RX1, "<init>", "()V"⟩
abbrev cX1_judge : ByteArray := prog_3_method_2_code
def yX1_judge : MethodName := ⟨RX1, "judge", "(LSungSlides$State;)V"⟩
abbrev cX1_judgePerfect : ByteArray := prog_3_method_3_code
def yX1_judgePerfect : MethodName := ⟨RX1, "judgePerfect", "(LSungSlides$State;)V"⟩
abbrev cX1_hear : ByteArray := prog_3_method_4_code
def yX1_hear : MethodName := ⟨RX1, "hear", "(LSungSlides$State;I)V"⟩
abbrev cX1_isBarLine : ByteArray := prog_3_method_5_code
def yX1_isBarLine : MethodName := ⟨RX1, "isBarLine", "(II)Z"⟩
abbrev cX1_reasonFor : ByteArray := prog_3_method_6_code
def yX1_reasonFor : MethodName := ⟨RX1, "reasonFor", "(III)I"⟩
abbrev cX1_score : ByteArray := prog_3_method_7_code
def yX1_score : MethodName := ⟨RX1, "score", "(LSungSlides$Song;)V"⟩
abbrev cX1_beginPhrase : ByteArray := prog_3_method_8_code
def yX1_beginPhrase : MethodName := ⟨RX1, "beginPhrase", "(I)V"⟩
abbrev cX1_scoreOf : ByteArray := prog_3_method_9_code
def yX1_scoreOf : MethodName := ⟨RX1, "scoreOf", "(LSungSlides$Song;I)I"⟩
abbrev cX1_extraOf : ByteArray := prog_3_method_10_code
def yX1_extraOf : MethodName := ⟨RX1, "extraOf", "(II)I"⟩
abbrev cX1_valueIn : ByteArray := prog_3_method_11_code
def yX1_valueIn : MethodName := ⟨RX1, "valueIn", "([II)I"⟩
abbrev cX1_matchesOf : ByteArray := prog_3_method_12_code
def yX1_matchesOf : MethodName := ⟨RX1, "matchesOf", "(I)I"⟩
abbrev cX1_shareOf : ByteArray := prog_3_method_13_code
def yX1_shareOf : MethodName := ⟨RX1, "shareOf", "(I)I"⟩
abbrev cX1_onsetOf : ByteArray := prog_3_method_14_code
def yX1_onsetOf : MethodName := ⟨RX1, "onsetOf", "(I)I"⟩
abbrev cX1_reasonOf : ByteArray := prog_3_method_15_code
def yX1_reasonOf : MethodName := ⟨RX1, "reasonOf", "(I)I"⟩
abbrev cX1_pointsOf : ByteArray := prog_3_method_16_code
def yX1_pointsOf : MethodName := ⟨RX1, "pointsOf", "(I)I"⟩
abbrev cX1_rowAheadOf : ByteArray := prog_3_method_17_code
def yX1_rowAheadOf : MethodName := ⟨RX1, "rowAheadOf", "(I)I"⟩
abbrev cX1_phraseHitsOf : ByteArray := prog_3_method_18_code
def yX1_phraseHitsOf : MethodName := ⟨RX1, "phraseHitsOf", "(I)I"⟩
abbrev cX1_phrasePointsOf : ByteArray := prog_3_method_19_code
def yX1_phrasePointsOf : MethodName := ⟨RX1, "phrasePointsOf", "(I)I"⟩
abbrev cX1_longestRowOf : ByteArray := prog_3_method_20_code
def yX1_longestRowOf : MethodName := ⟨RX1, "longestRowOf", "(I)I"⟩
def RX2 : String := "SungSlides$Reader"
def TX2 : u_T := fun k => match k with
  | 0 => ("SungSlides$Reader", "place", "I", false)
  | 1 => ("SungSlides$Reader", "hasFault", "Z", false)
  | _ => ("SungSlides$Reader", "isTooLong", "Z", false)
def tyX2 : Nat → FieldType := fun k => match k with
  | 0 => .int
  | 1 => .boolean
  | _ => .boolean
abbrev wsX20 : List Cond := u_ws RX2 TX2 3
theorem nmX2 : ∀ a, a < 3 → ∀ b, b < 3 → a ≠ b → (TX2 a).2.1 ≠ (TX2 b).2.1 := by decide +kernel
theorem tyX2_ok : ∀ k, k < 3 → parseFieldDescriptor (TX2 k).2.2.1 = some (tyX2 k) := by decide +kernel
abbrev cX2_init : ByteArray := prog_4_method_1_code
def yX2_init : MethodName := ⟨RX2, "<init>", "()V"⟩
abbrev cX2_readInto : ByteArray := prog_4_method_2_code
def yX2_readInto : MethodName := ⟨RX2, "readInto", "(LSungSlides$Song;LSungSlides$Text;)V"⟩
abbrev cX2_readSyllable : ByteArray := prog_4_method_3_code
def yX2_readSyllable : MethodName := ⟨RX2, "readSyllable", "(LSungSlides$Song;LSungSlides$Text;Z)Z"⟩
abbrev cX2_skip : ByteArray := prog_4_method_4_code
def yX2_skip : MethodName := ⟨RX2, "skip", "(LSungSlides$Text;C)Z"⟩
abbrev cX2_readNumber : ByteArray := prog_4_method_5_code
def yX2_readNumber : MethodName := ⟨RX2, "readNumber", "(LSungSlides$Text;II)I"⟩
def RX3 : String := "SungSlides$Song"
def TX3 : u_T := fun k => match k with
  | 0 => ("SungSlides$Song", "beginnings", "[I", true)
  | 1 => ("SungSlides$Song", "lengths", "[I", true)
  | 2 => ("SungSlides$Song", "pitches", "[I", true)
  | 3 => ("SungSlides$Song", "endPitches", "[I", true)
  | 4 => ("SungSlides$Song", "phrases", "[I", true)
  | _ => ("SungSlides$Song", "count", "I", false)
def tyX3 : Nat → FieldType := fun k => match k with
  | 0 => .array .int
  | 1 => .array .int
  | 2 => .array .int
  | 3 => .array .int
  | 4 => .array .int
  | _ => .int
abbrev wsX30 : List Cond := u_ws RX3 TX3 6
theorem nmX3 : ∀ a, a < 6 → ∀ b, b < 6 → a ≠ b → (TX3 a).2.1 ≠ (TX3 b).2.1 := by decide +kernel
theorem tyX3_ok : ∀ k, k < 6 → parseFieldDescriptor (TX3 k).2.2.1 = some (tyX3 k) := by decide +kernel
abbrev cX3_init : ByteArray := prog_5_method_1_code
def yX3_init : MethodName := ⟨RX3, "<init>", "()V"⟩
abbrev cX3_size : ByteArray := prog_5_method_2_code
def yX3_size : MethodName := ⟨RX3, "size", "()I"⟩
abbrev cX3_has : ByteArray := prog_5_method_3_code
def yX3_has : MethodName := ⟨RX3, "has", "(I)Z"⟩
abbrev cX3_beginningOf : ByteArray := prog_5_method_4_code
def yX3_beginningOf : MethodName := ⟨RX3, "beginningOf", "(I)I"⟩
abbrev cX3_lengthOf : ByteArray := prog_5_method_5_code
def yX3_lengthOf : MethodName := ⟨RX3, "lengthOf", "(I)I"⟩
abbrev cX3_pitchOf : ByteArray := prog_5_method_6_code
def yX3_pitchOf : MethodName := ⟨RX3, "pitchOf", "(I)I"⟩
abbrev cX3_endPitchOf : ByteArray := prog_5_method_7_code
def yX3_endPitchOf : MethodName := ⟨RX3, "endPitchOf", "(I)I"⟩
abbrev cX3_phraseOf : ByteArray := prog_5_method_8_code
def yX3_phraseOf : MethodName := ⟨RX3, "phraseOf", "(I)I"⟩
abbrev cX3_ticks : ByteArray := prog_5_method_9_code
def yX3_ticks : MethodName := ⟨RX3, "ticks", "()I"⟩
abbrev cX3_phraseCount : ByteArray := prog_5_method_10_code
def yX3_phraseCount : MethodName := ⟨RX3, "phraseCount", "()I"⟩
abbrev cX3_firstOfPhrase : ByteArray := prog_5_method_11_code
def yX3_firstOfPhrase : MethodName := ⟨RX3, "firstOfPhrase", "(I)I"⟩
abbrev cX3_sizeOfPhrase : ByteArray := prog_5_method_12_code
def yX3_sizeOfPhrase : MethodName := ⟨RX3, "sizeOfPhrase", "(I)I"⟩
abbrev cX3_beginsPhrase : ByteArray := prog_5_method_13_code
def yX3_beginsPhrase : MethodName := ⟨RX3, "beginsPhrase", "(I)Z"⟩
abbrev cX3_wantedOf : ByteArray := prog_5_method_14_code
def yX3_wantedOf : MethodName := ⟨RX3, "wantedOf", "(II)I"⟩
abbrev cX3_barLinesOf : ByteArray := prog_5_method_15_code
def yX3_barLinesOf : MethodName := ⟨RX3, "barLinesOf", "(II)I"⟩
abbrev cX3_hasRoomFor : ByteArray := prog_5_method_16_code
def yX3_hasRoomFor : MethodName := ⟨RX3, "hasRoomFor", "(II)Z"⟩
abbrev cX3_append : ByteArray := prog_5_method_17_code
def yX3_append : MethodName := ⟨RX3, "append", "(IIIIZ)I"⟩
abbrev cX3_removeLast : ByteArray := prog_5_method_18_code
def yX3_removeLast : MethodName := ⟨RX3, "removeLast", "()I"⟩
abbrev cX3_clear : ByteArray := prog_5_method_19_code
def yX3_clear : MethodName := ⟨RX3, "clear", "()V"⟩
abbrev cX3_copyFrom : ByteArray := prog_5_method_20_code
def yX3_copyFrom : MethodName := ⟨RX3, "copyFrom", "(LSungSlides$Song;)V"⟩
def RX4 : String := "SungSlides$State"
def TX4 : u_T := fun k => match k with
  | 0 => ("SungSlides$State", "song", "LSungSlides$Song;", true)
  | 1 => ("SungSlides$State", "settings", "[I", true)
  | _ => ("SungSlides$State", "pitches", "[I", true)
def tyX4 : Nat → FieldType := fun k => match k with
  | 0 => .object "SungSlides$Song"
  | 1 => .array .int
  | _ => .array .int
abbrev wsX40 : List Cond := u_ws RX4 TX4 3
theorem nmX4 : ∀ a, a < 3 → ∀ b, b < 3 → a ≠ b → (TX4 a).2.1 ≠ (TX4 b).2.1 := by decide +kernel
theorem tyX4_ok : ∀ k, k < 3 → parseFieldDescriptor (TX4 k).2.2.1 = some (tyX4 k) := by decide +kernel
abbrev cX4_init : ByteArray := prog_6_method_1_code
def yX4_init : MethodName := ⟨RX4, "<init>", "()V"⟩
abbrev cX4_copyFrom : ByteArray := prog_6_method_2_code
def yX4_copyFrom : MethodName := ⟨RX4, "copyFrom", "(LSungSlides$State;)V"⟩
abbrev cX4_setting : ByteArray := prog_6_method_3_code
def yX4_setting : MethodName := ⟨RX4, "setting", "(I)I"⟩
abbrev cX4_change : ByteArray := prog_6_method_4_code
def yX4_change : MethodName := ⟨RX4, "change", "(II)V"⟩
abbrev cX4_sungAt : ByteArray := prog_6_method_5_code
def yX4_sungAt : MethodName := ⟨RX4, "sungAt", "(I)I"⟩
abbrev cX4_voiceAt : ByteArray := prog_6_method_6_code
def yX4_voiceAt : MethodName := ⟨RX4, "voiceAt", "(II)V"⟩
abbrev cX4_voice : ByteArray := prog_6_method_7_code
def yX4_voice : MethodName := ⟨RX4, "voice", "(III)V"⟩
abbrev cX4_voiceAsWanted : ByteArray := prog_6_method_8_code
def yX4_voiceAsWanted : MethodName := ⟨RX4, "voiceAsWanted", "(II)V"⟩
abbrev cX4_voiceShifted : ByteArray := prog_6_method_9_code
def yX4_voiceShifted : MethodName := ⟨RX4, "voiceShifted", "(LSungSlides$State;II)V"⟩
abbrev cX4_soundingTicks : ByteArray := prog_6_method_10_code
def yX4_soundingTicks : MethodName := ⟨RX4, "soundingTicks", "()I"⟩
abbrev cX4_isOnset : ByteArray := prog_6_method_11_code
def yX4_isOnset : MethodName := ⟨RX4, "isOnset", "(I)Z"⟩
abbrev cX4_onsets : ByteArray := prog_6_method_12_code
def yX4_onsets : MethodName := ⟨RX4, "onsets", "()I"⟩
abbrev cX4_onsetNear : ByteArray := prog_6_method_13_code
def yX4_onsetNear : MethodName := ⟨RX4, "onsetNear", "(I)I"⟩
abbrev cX4_isMatch : ByteArray := prog_6_method_14_code
def yX4_isMatch : MethodName := ⟨RX4, "isMatch", "(II)Z"⟩
def RX5 : String := "SungSlides$Text"
def TX5 : u_T := fun k => match k with
  | 0 => ("SungSlides$Text", "characters", "[C", true)
  | _ => ("SungSlides$Text", "count", "I", false)
def tyX5 : Nat → FieldType := fun k => match k with
  | 0 => .array .char
  | _ => .int
abbrev wsX50 : List Cond := u_ws RX5 TX5 2
theorem nmX5 : ∀ a, a < 2 → ∀ b, b < 2 → a ≠ b → (TX5 a).2.1 ≠ (TX5 b).2.1 := by decide +kernel
theorem tyX5_ok : ∀ k, k < 2 → parseFieldDescriptor (TX5 k).2.2.1 = some (tyX5 k) := by decide +kernel
abbrev cX5_init : ByteArray := prog_7_method_1_code
def yX5_init : MethodName := ⟨RX5, "<init>", "()V"⟩
abbrev cX5_size : ByteArray := prog_7_method_2_code
def yX5_size : MethodName := ⟨RX5, "size", "()I"⟩
abbrev cX5_isFull : ByteArray := prog_7_method_3_code
def yX5_isFull : MethodName := ⟨RX5, "isFull", "()Z"⟩
abbrev cX5_append : ByteArray := prog_7_method_4_code
def yX5_append : MethodName := ⟨RX5, "append", "(C)I"⟩
abbrev cX5_empty : ByteArray := prog_7_method_5_code
def yX5_empty : MethodName := ⟨RX5, "empty", "()I"⟩
abbrev cX5_hasAt : ByteArray := prog_7_method_6_code
def yX5_hasAt : MethodName := ⟨RX5, "hasAt", "(IC)Z"⟩
abbrev cX5_digitAt : ByteArray := prog_7_method_7_code
def yX5_digitAt : MethodName := ⟨RX5, "digitAt", "(I)I"⟩
def RX6 : String := "SungSlides"
def TX6 : u_T := fun k => match k with
  | 0 => ("SungSlides", "now", "LSungSlides$State;", true)
  | 1 => ("SungSlides", "would", "LSungSlides$State;", true)
  | 2 => ("SungSlides", "snapshot", "LSungSlides$State;", true)
  | 3 => ("SungSlides", "hasSnapshot", "Z", false)
  | 4 => ("SungSlides", "history", "LSungSlides$History;", true)
  | 5 => ("SungSlides", "text", "LSungSlides$Text;", true)
  | 6 => ("SungSlides", "reader", "LSungSlides$Reader;", true)
  | _ => ("SungSlides", "judge", "LSungSlides$Judge;", true)
def tyX6 : Nat → FieldType := fun k => match k with
  | 0 => .object "SungSlides$State"
  | 1 => .object "SungSlides$State"
  | 2 => .object "SungSlides$State"
  | 3 => .boolean
  | 4 => .object "SungSlides$History"
  | 5 => .object "SungSlides$Text"
  | 6 => .object "SungSlides$Reader"
  | _ => .object "SungSlides$Judge"
abbrev wsX60 : List Cond := u_ws RX6 TX6 8
theorem nmX6 : ∀ a, a < 8 → ∀ b, b < 8 → a ≠ b → (TX6 a).2.1 ≠ (TX6 b).2.1 := by decide +kernel
theorem tyX6_ok : ∀ k, k < 8 → parseFieldDescriptor (TX6 k).2.2.1 = some (tyX6 k) := by decide +kernel
abbrev cX6_init : ByteArray := prog_1_method_1_code
def yX6_init : MethodName := ⟨RX6, "<init>", "()V"⟩
abbrev cX6_add : ByteArray := prog_1_method_2_code
def yX6_add : MethodName := ⟨RX6, "add", "(IIIIZ)I"⟩
abbrev cX6_drop : ByteArray := prog_1_method_3_code
def yX6_drop : MethodName := ⟨RX6, "drop", "()I"⟩
abbrev cX6_read : ByteArray := prog_1_method_4_code
def yX6_read : MethodName := ⟨RX6, "read", "()I"⟩
abbrev cX6_set : ByteArray := prog_1_method_5_code
def yX6_set : MethodName := ⟨RX6, "set", "(II)I"⟩
abbrev cX6_sing : ByteArray := prog_1_method_6_code
def yX6_sing : MethodName := ⟨RX6, "sing", "(III)I"⟩
abbrev cX6_silence : ByteArray := prog_1_method_7_code
def yX6_silence : MethodName := ⟨RX6, "silence", "(II)I"⟩
abbrev cX6_singAlong : ByteArray := prog_1_method_8_code
def yX6_singAlong : MethodName := ⟨RX6, "singAlong", "(III)I"⟩
abbrev cX6_type : ByteArray := prog_1_method_9_code
def yX6_type : MethodName := ⟨RX6, "type", "(C)I"⟩
abbrev cX6_clearText : ByteArray := prog_1_method_10_code
def yX6_clearText : MethodName := ⟨RX6, "clearText", "()I"⟩
abbrev cX6_undo : ByteArray := prog_1_method_11_code
def yX6_undo : MethodName := ⟨RX6, "undo", "()I"⟩
abbrev cX6_keep : ByteArray := prog_1_method_12_code
def yX6_keep : MethodName := ⟨RX6, "keep", "()I"⟩
abbrev cX6_restore : ByteArray := prog_1_method_13_code
def yX6_restore : MethodName := ⟨RX6, "restore", "()I"⟩
abbrev cX6_syllable : ByteArray := prog_1_method_14_code
def yX6_syllable : MethodName := ⟨RX6, "syllable", "(II)I"⟩
abbrev cX6_wanted : ByteArray := prog_1_method_15_code
def yX6_wanted : MethodName := ⟨RX6, "wanted", "(I)I"⟩
abbrev cX6_sung : ByteArray := prog_1_method_16_code
def yX6_sung : MethodName := ⟨RX6, "sung", "(I)I"⟩
abbrev cX6_lit : ByteArray := prog_1_method_17_code
def yX6_lit : MethodName := ⟨RX6, "lit", "(II)I"⟩
abbrev cX6_phrase : ByteArray := prog_1_method_18_code
def yX6_phrase : MethodName := ⟨RX6, "phrase", "(II)I"⟩
abbrev cX6_total : ByteArray := prog_1_method_19_code
def yX6_total : MethodName := ⟨RX6, "total", "(I)I"⟩
abbrev cX6_ifShifted : ByteArray := prog_1_method_20_code
def yX6_ifShifted : MethodName := ⟨RX6, "ifShifted", "(II)I"⟩
abbrev cX6_bestShift : ByteArray := prog_1_method_21_code
def yX6_bestShift : MethodName := ⟨RX6, "bestShift", "()I"⟩
abbrev cX6_ifSet : ByteArray := prog_1_method_22_code
def yX6_ifSet : MethodName := ⟨RX6, "ifSet", "(II)I"⟩
abbrev cX6_worst : ByteArray := prog_1_method_23_code
def yX6_worst : MethodName := ⟨RX6, "worst", "()I"⟩
abbrev cX6_isWithin : ByteArray := prog_1_method_24_code
def yX6_isWithin : MethodName := ⟨RX6, "isWithin", "(III)Z"⟩
abbrev cX6_isSetting : ByteArray := prog_1_method_25_code
def yX6_isSetting : MethodName := ⟨RX6, "isSetting", "(I)Z"⟩
abbrev cX6_isValueOf : ByteArray := prog_1_method_26_code
def yX6_isValueOf : MethodName := ⟨RX6, "isValueOf", "(II)Z"⟩
abbrev cX6_areTicks : ByteArray := prog_1_method_27_code
def yX6_areTicks : MethodName := ⟨RX6, "areTicks", "(III)Z"⟩
abbrev cX6_hitsNow : ByteArray := prog_1_method_28_code
def yX6_hitsNow : MethodName := ⟨RX6, "hitsNow", "()I"⟩
abbrev cX6_pointsOf : ByteArray := prog_1_method_29_code
def yX6_pointsOf : MethodName := ⟨RX6, "pointsOf", "(LSungSlides$State;)I"⟩
abbrev cX6_mostPoints : ByteArray := prog_1_method_30_code
def yX6_mostPoints : MethodName := ⟨RX6, "mostPoints", "()I"⟩
abbrev cX6_pointsIfShifted : ByteArray := prog_1_method_31_code
def yX6_pointsIfShifted : MethodName := ⟨RX6, "pointsIfShifted", "(II)I"⟩
def RX7 : String := "SungSlidesModel"
def TX7 : u_T := fun k => match k with
  | 0 => ("SungSlidesModel", "s", "[I", true)
  | 1 => ("SungSlidesModel", "history", "[I", true)
  | 2 => ("SungSlidesModel", "kept", "I", false)
  | 3 => ("SungSlidesModel", "snapshot", "[I", true)
  | 4 => ("SungSlidesModel", "isTaken", "Z", false)
  | 5 => ("SungSlidesModel", "text", "[C", true)
  | 6 => ("SungSlidesModel", "length", "I", false)
  | 7 => ("SungSlidesModel", "heard", "[I", true)
  | 8 => ("SungSlidesModel", "matching", "[I", true)
  | 9 => ("SungSlidesModel", "onset", "[I", true)
  | 10 => ("SungSlidesModel", "why", "[I", true)
  | 11 => ("SungSlidesModel", "row", "[I", true)
  | 12 => ("SungSlidesModel", "points", "[I", true)
  | 13 => ("SungSlidesModel", "place", "I", false)
  | 14 => ("SungSlidesModel", "told", "[I", true)
  | _ => ("SungSlidesModel", "ticksOfText", "I", false)
def tyX7 : Nat → FieldType := fun k => match k with
  | 0 => .array .int
  | 1 => .array .int
  | 2 => .int
  | 3 => .array .int
  | 4 => .boolean
  | 5 => .array .char
  | 6 => .int
  | 7 => .array .int
  | 8 => .array .int
  | 9 => .array .int
  | 10 => .array .int
  | 11 => .array .int
  | 12 => .array .int
  | 13 => .int
  | 14 => .array .int
  | _ => .int
abbrev wsX70 : List Cond := u_ws RX7 TX7 16
theorem nmX7 : ∀ a, a < 16 → ∀ b, b < 16 → a ≠ b → (TX7 a).2.1 ≠ (TX7 b).2.1 := by decide +kernel
theorem tyX7_ok : ∀ k, k < 16 → parseFieldDescriptor (TX7 k).2.2.1 = some (tyX7 k) := by decide +kernel
abbrev cX7_init : ByteArray := prog_9_method_1_code
def yX7_init : MethodName := ⟨RX7, "<init>", "()V"⟩
abbrev cX7_in : ByteArray := prog_9_method_3_code
def yX7_in : MethodName := ⟨RX7, "in", "(III)Z"⟩
abbrev cX7_size : ByteArray := prog_9_method_4_code
def yX7_size : MethodName := ⟨RX7, "size", "(I)I"⟩
abbrev cX7_isPitch : ByteArray := prog_9_method_5_code
def yX7_isPitch : MethodName := ⟨RX7, "isPitch", "(I)Z"⟩
abbrev cX7_isTick : ByteArray := prog_9_method_6_code
def yX7_isTick : MethodName := ⟨RX7, "isTick", "(I)Z"⟩
abbrev cX7_isSyllable : ByteArray := prog_9_method_7_code
def yX7_isSyllable : MethodName := ⟨RX7, "isSyllable", "(I)Z"⟩
abbrev cX7_of : ByteArray := prog_9_method_8_code
def yX7_of : MethodName := ⟨RX7, "of", "(II)I"⟩
abbrev cX7_lay : ByteArray := prog_9_method_9_code
def yX7_lay : MethodName := ⟨RX7, "lay", "(III)V"⟩
abbrev cX7_copy : ByteArray := prog_9_method_10_code
def yX7_copy : MethodName := ⟨RX7, "copy", "([II[II)V"⟩
abbrev cX7_record : ByteArray := prog_9_method_11_code
def yX7_record : MethodName := ⟨RX7, "record", "()V"⟩
abbrev cX7_behind : ByteArray := prog_9_method_12_code
def yX7_behind : MethodName := ⟨RX7, "behind", "(I)I"⟩
abbrev cX7_endOfSong : ByteArray := prog_9_method_13_code
def yX7_endOfSong : MethodName := ⟨RX7, "endOfSong", "()I"⟩
abbrev cX7_wantedIn : ByteArray := prog_9_method_14_code
def yX7_wantedIn : MethodName := ⟨RX7, "wantedIn", "(II)I"⟩
abbrev cX7_syllableAt : ByteArray := prog_9_method_15_code
def yX7_syllableAt : MethodName := ⟨RX7, "syllableAt", "(I)I"⟩
abbrev cX7_phraseOf : ByteArray := prog_9_method_16_code
def yX7_phraseOf : MethodName := ⟨RX7, "phraseOf", "(I)I"⟩
abbrev cX7_phrases : ByteArray := prog_9_method_17_code
def yX7_phrases : MethodName := ⟨RX7, "phrases", "()I"⟩
abbrev cX7_hear : ByteArray := prog_9_method_18_code
def yX7_hear : MethodName := ⟨RX7, "hear", "(II)V"⟩
abbrev cX7_isOnset : ByteArray := prog_9_method_19_code
def yX7_isOnset : MethodName := ⟨RX7, "isOnset", "(I)Z"⟩
abbrev cX7_matches : ByteArray := prog_9_method_20_code
def yX7_matches : MethodName := ⟨RX7, "matches", "(II)Z"⟩
abbrev cX7_nearestOnset : ByteArray := prog_9_method_21_code
def yX7_nearestOnset : MethodName := ⟨RX7, "nearestOnset", "(I)I"⟩
abbrev cX7_share : ByteArray := prog_9_method_22_code
def yX7_share : MethodName := ⟨RX7, "share", "(I)I"⟩
abbrev cX7_reasonOf : ByteArray := prog_9_method_23_code
def yX7_reasonOf : MethodName := ⟨RX7, "reasonOf", "(I)I"⟩
abbrev cX7_bars : ByteArray := prog_9_method_24_code
def yX7_bars : MethodName := ⟨RX7, "bars", "(IZ)I"⟩
abbrev cX7_pointsOf : ByteArray := prog_9_method_25_code
def yX7_pointsOf : MethodName := ⟨RX7, "pointsOf", "(I)I"⟩
abbrev cX7_judge : ByteArray := prog_9_method_26_code
def yX7_judge : MethodName := ⟨RX7, "judge", "()V"⟩
abbrev cX7_judgeSong : ByteArray := prog_9_method_27_code
def yX7_judgeSong : MethodName := ⟨RX7, "judgeSong", "()V"⟩
abbrev cX7_ofPhrase : ByteArray := prog_9_method_28_code
def yX7_ofPhrase : MethodName := ⟨RX7, "ofPhrase", "(II)I"⟩
abbrev cX7_allPoints : ByteArray := prog_9_method_29_code
def yX7_allPoints : MethodName := ⟨RX7, "allPoints", "()I"⟩
abbrev cX7_hits : ByteArray := prog_9_method_30_code
def yX7_hits : MethodName := ⟨RX7, "hits", "()I"⟩
abbrev cX7_mostPoints : ByteArray := prog_9_method_31_code
def yX7_mostPoints : MethodName := ⟨RX7, "mostPoints", "()I"⟩
abbrev cX7_addError : ByteArray := prog_9_method_32_code
def yX7_addError : MethodName := ⟨RX7, "addError", "(III)I"⟩
abbrev cX7_doAdd : ByteArray := prog_9_method_33_code
def yX7_doAdd : MethodName := ⟨RX7, "doAdd", "(IIIII)I"⟩
abbrev cX7_add : ByteArray := prog_9_method_34_code
def yX7_add : MethodName := ⟨RX7, "add", "(IIIIZ)I"⟩
abbrev cX7_drop : ByteArray := prog_9_method_35_code
def yX7_drop : MethodName := ⟨RX7, "drop", "()I"⟩
abbrev cX7_settingError : ByteArray := prog_9_method_36_code
def yX7_settingError : MethodName := ⟨RX7, "settingError", "(II)I"⟩
abbrev cX7_set : ByteArray := prog_9_method_37_code
def yX7_set : MethodName := ⟨RX7, "set", "(II)I"⟩
abbrev cX7_sing : ByteArray := prog_9_method_38_code
def yX7_sing : MethodName := ⟨RX7, "sing", "(III)I"⟩
abbrev cX7_silence : ByteArray := prog_9_method_39_code
def yX7_silence : MethodName := ⟨RX7, "silence", "(II)I"⟩
abbrev cX7_singAlong : ByteArray := prog_9_method_40_code
def yX7_singAlong : MethodName := ⟨RX7, "singAlong", "(III)I"⟩
abbrev cX7_type : ByteArray := prog_9_method_41_code
def yX7_type : MethodName := ⟨RX7, "type", "(C)I"⟩
abbrev cX7_clearText : ByteArray := prog_9_method_42_code
def yX7_clearText : MethodName := ⟨RX7, "clearText", "()I"⟩
abbrev cX7_isNext : ByteArray := prog_9_method_43_code
def yX7_isNext : MethodName := ⟨RX7, "isNext", "(II)Z"⟩
abbrev cX7_takes : ByteArray := prog_9_method_44_code
def yX7_takes : MethodName := ⟨RX7, "takes", "(I)Z"⟩
abbrev cX7_readNumber : ByteArray := prog_9_method_45_code
def yX7_readNumber : MethodName := ⟨RX7, "readNumber", "(III)Z"⟩
abbrev cX7_readSyllable : ByteArray := prog_9_method_46_code
def yX7_readSyllable : MethodName := ⟨RX7, "readSyllable", "()Z"⟩
abbrev cX7_readText : ByteArray := prog_9_method_47_code
def yX7_readText : MethodName := ⟨RX7, "readText", "(Z)Z"⟩
abbrev cX7_read : ByteArray := prog_9_method_48_code
def yX7_read : MethodName := ⟨RX7, "read", "()I"⟩
abbrev cX7_undo : ByteArray := prog_9_method_49_code
def yX7_undo : MethodName := ⟨RX7, "undo", "()I"⟩
abbrev cX7_keep : ByteArray := prog_9_method_50_code
def yX7_keep : MethodName := ⟨RX7, "keep", "()I"⟩
abbrev cX7_restore : ByteArray := prog_9_method_51_code
def yX7_restore : MethodName := ⟨RX7, "restore", "()I"⟩
abbrev cX7_syllable : ByteArray := prog_9_method_52_code
def yX7_syllable : MethodName := ⟨RX7, "syllable", "(II)I"⟩
abbrev cX7_wanted : ByteArray := prog_9_method_53_code
def yX7_wanted : MethodName := ⟨RX7, "wanted", "(I)I"⟩
abbrev cX7_sung : ByteArray := prog_9_method_54_code
def yX7_sung : MethodName := ⟨RX7, "sung", "(I)I"⟩
abbrev cX7_lit : ByteArray := prog_9_method_55_code
def yX7_lit : MethodName := ⟨RX7, "lit", "(II)I"⟩
abbrev cX7_phrase : ByteArray := prog_9_method_56_code
def yX7_phrase : MethodName := ⟨RX7, "phrase", "(II)I"⟩
abbrev cX7_sungTicks : ByteArray := prog_9_method_57_code
def yX7_sungTicks : MethodName := ⟨RX7, "sungTicks", "()I"⟩
abbrev cX7_onsets : ByteArray := prog_9_method_58_code
def yX7_onsets : MethodName := ⟨RX7, "onsets", "()I"⟩
abbrev cX7_total : ByteArray := prog_9_method_59_code
def yX7_total : MethodName := ⟨RX7, "total", "(I)I"⟩
abbrev cX7_pointsShifted : ByteArray := prog_9_method_60_code
def yX7_pointsShifted : MethodName := ⟨RX7, "pointsShifted", "(II)I"⟩
abbrev cX7_ifShifted : ByteArray := prog_9_method_61_code
def yX7_ifShifted : MethodName := ⟨RX7, "ifShifted", "(II)I"⟩
abbrev cX7_bestShift : ByteArray := prog_9_method_62_code
def yX7_bestShift : MethodName := ⟨RX7, "bestShift", "()I"⟩
abbrev cX7_ifSet : ByteArray := prog_9_method_63_code
def yX7_ifSet : MethodName := ⟨RX7, "ifSet", "(II)I"⟩
abbrev cX7_worst : ByteArray := prog_9_method_64_code
def yX7_worst : MethodName := ⟨RX7, "worst", "()I"⟩
def RL : String := "SungSlidesLaw"
abbrev cL_law : ByteArray := code
def yL_law : MethodName := ⟨RL, "law", "([I)Z"⟩
abbrev vwCl : List vw_C := [(RX0, TX0, 2), (RX1, TX1, 12), (RX2, TX2, 3), (RX3, TX3, 6), (RX4, TX4, 3), (RX5, TX5, 2), (RX6, TX6, 8), (RX7, TX7, 16)]
end
section
theorem dX0_init_0 : decode cX0_init 0 = .ok (.aload_n 0, 1) := by decide +kernel
theorem dX0_init_1 : decode cX0_init 1 = .ok (.invokespecial 3, 3) := by decide +kernel
theorem dX0_init_4 : decode cX0_init 4 = .ok (.aload_n 0, 1) := by decide +kernel
theorem dX0_init_5 : decode cX0_init 5 = .ok (.iconst 4, 1) := by decide +kernel
theorem dX0_init_6 : decode cX0_init 6 = .ok (.anewarray 9, 3) := by decide +kernel
theorem dX0_init_9 : decode cX0_init 9 = .ok (.putfield 11, 3) := by decide +kernel
theorem dX0_init_12 : decode cX0_init 12 = .ok (.aload_n 0, 1) := by decide +kernel
theorem dX0_init_13 : decode cX0_init 13 = .ok (.iconst 0, 1) := by decide +kernel
theorem dX0_init_14 : decode cX0_init 14 = .ok (.putfield 17, 3) := by decide +kernel
theorem dX0_init_17 : decode cX0_init 17 = .ok (.iconst 0, 1) := by decide +kernel
theorem dX0_init_18 : decode cX0_init 18 = .ok (.istore_n 1, 1) := by decide +kernel
theorem dX0_init_19 : decode cX0_init 19 = .ok (.iload_n 1, 1) := by decide +kernel
theorem dX0_init_20 : decode cX0_init 20 = .ok (.iconst 4, 1) := by decide +kernel
theorem dX0_init_21 : decode cX0_init 21 = .ok (.if_icmp .ge 22, 3) := by decide +kernel
theorem dX0_init_24 : decode cX0_init 24 = .ok (.aload_n 0, 1) := by decide +kernel
theorem dX0_init_25 : decode cX0_init 25 = .ok (.getfield 11, 3) := by decide +kernel
theorem dX0_init_28 : decode cX0_init 28 = .ok (.iload_n 1, 1) := by decide +kernel
theorem dX0_init_29 : decode cX0_init 29 = .ok (.new 9, 3) := by decide +kernel
theorem dX0_init_32 : decode cX0_init 32 = .ok (.dup, 1) := by decide +kernel
theorem dX0_init_33 : decode cX0_init 33 = .ok (.invokespecial 21, 3) := by decide +kernel
theorem dX0_init_36 : decode cX0_init 36 = .ok (.aastore, 1) := by decide +kernel
theorem dX0_init_37 : decode cX0_init 37 = .ok (.iinc 1 1, 3) := by decide +kernel
theorem dX0_init_40 : decode cX0_init 40 = .ok (.goto (-21), 3) := by decide +kernel
theorem dX0_init_43 : decode cX0_init 43 = .ok (.return_, 1) := by decide +kernel
theorem dX0_size_0 : decode cX0_size 0 = .ok (.aload_n 0, 1) := by decide +kernel
theorem dX0_size_1 : decode cX0_size 1 = .ok (.getfield 17, 3) := by decide +kernel
theorem dX0_size_4 : decode cX0_size 4 = .ok (.ireturn, 1) := by decide +kernel
theorem dX0_record_0 : decode cX0_record 0 = .ok (.aload_n 0, 1) := by decide +kernel
theorem dX0_record_1 : decode cX0_record 1 = .ok (.getfield 17, 3) := by decide +kernel
theorem dX0_record_4 : decode cX0_record 4 = .ok (.iconst 4, 1) := by decide +kernel
theorem dX0_record_5 : decode cX0_record 5 = .ok (.if_icmp .lt 7, 3) := by decide +kernel
theorem dX0_record_8 : decode cX0_record 8 = .ok (.aload_n 0, 1) := by decide +kernel
theorem dX0_record_9 : decode cX0_record 9 = .ok (.invokevirtual 22, 3) := by decide +kernel
theorem dX0_record_12 : decode cX0_record 12 = .ok (.aload_n 0, 1) := by decide +kernel
theorem dX0_record_13 : decode cX0_record 13 = .ok (.getfield 17, 3) := by decide +kernel
theorem dX0_record_16 : decode cX0_record 16 = .ok (.iconst 0, 1) := by decide +kernel
theorem dX0_record_17 : decode cX0_record 17 = .ok (.iconst 3, 1) := by decide +kernel
theorem dX0_record_18 : decode cX0_record 18 = .ok (.invokestatic 25, 3) := by decide +kernel
theorem dX0_record_21 : decode cX0_record 21 = .ok (.ifCond .eq 38, 3) := by decide +kernel
theorem dX0_record_24 : decode cX0_record 24 = .ok (.aload_n 0, 1) := by decide +kernel
theorem dX0_record_25 : decode cX0_record 25 = .ok (.getfield 11, 3) := by decide +kernel
theorem dX0_record_28 : decode cX0_record 28 = .ok (.aload_n 0, 1) := by decide +kernel
theorem dX0_record_29 : decode cX0_record 29 = .ok (.getfield 17, 3) := by decide +kernel
theorem dX0_record_32 : decode cX0_record 32 = .ok (.aaload, 1) := by decide +kernel
theorem dX0_record_33 : decode cX0_record 33 = .ok (.ifnull 26, 3) := by decide +kernel
theorem dX0_record_36 : decode cX0_record 36 = .ok (.aload_n 0, 1) := by decide +kernel
theorem dX0_record_37 : decode cX0_record 37 = .ok (.getfield 11, 3) := by decide +kernel
theorem dX0_record_40 : decode cX0_record 40 = .ok (.aload_n 0, 1) := by decide +kernel
theorem dX0_record_41 : decode cX0_record 41 = .ok (.getfield 17, 3) := by decide +kernel
theorem dX0_record_44 : decode cX0_record 44 = .ok (.aaload, 1) := by decide +kernel
theorem dX0_record_45 : decode cX0_record 45 = .ok (.aload_n 1, 1) := by decide +kernel
theorem dX0_record_46 : decode cX0_record 46 = .ok (.invokevirtual 29, 3) := by decide +kernel
theorem dX0_record_49 : decode cX0_record 49 = .ok (.aload_n 0, 1) := by decide +kernel
theorem dX0_record_50 : decode cX0_record 50 = .ok (.dup, 1) := by decide +kernel
theorem dX0_record_51 : decode cX0_record 51 = .ok (.getfield 17, 3) := by decide +kernel
theorem dX0_record_54 : decode cX0_record 54 = .ok (.iconst 1, 1) := by decide +kernel
theorem dX0_record_55 : decode cX0_record 55 = .ok (.iadd, 1) := by decide +kernel
theorem dX0_record_56 : decode cX0_record 56 = .ok (.putfield 17, 3) := by decide +kernel
theorem dX0_record_59 : decode cX0_record 59 = .ok (.return_, 1) := by decide +kernel
theorem dX0_dropOldest_0 : decode cX0_dropOldest 0 = .ok (.aload_n 0, 1) := by decide +kernel
theorem dX0_dropOldest_1 : decode cX0_dropOldest 1 = .ok (.getfield 11, 3) := by decide +kernel
theorem dX0_dropOldest_4 : decode cX0_dropOldest 4 = .ok (.iconst 0, 1) := by decide +kernel
theorem dX0_dropOldest_5 : decode cX0_dropOldest 5 = .ok (.aaload, 1) := by decide +kernel
theorem dX0_dropOldest_6 : decode cX0_dropOldest 6 = .ok (.astore_n 1, 1) := by decide +kernel
theorem dX0_dropOldest_7 : decode cX0_dropOldest 7 = .ok (.iconst 1, 1) := by decide +kernel
theorem dX0_dropOldest_8 : decode cX0_dropOldest 8 = .ok (.istore_n 2, 1) := by decide +kernel
theorem dX0_dropOldest_9 : decode cX0_dropOldest 9 = .ok (.iload_n 2, 1) := by decide +kernel
theorem dX0_dropOldest_10 : decode cX0_dropOldest 10 = .ok (.iconst 4, 1) := by decide +kernel
theorem dX0_dropOldest_11 : decode cX0_dropOldest 11 = .ok (.if_icmp .ge 23, 3) := by decide +kernel
theorem dX0_dropOldest_14 : decode cX0_dropOldest 14 = .ok (.aload_n 0, 1) := by decide +kernel
theorem dX0_dropOldest_15 : decode cX0_dropOldest 15 = .ok (.getfield 11, 3) := by decide +kernel
theorem dX0_dropOldest_18 : decode cX0_dropOldest 18 = .ok (.iload_n 2, 1) := by decide +kernel
theorem dX0_dropOldest_19 : decode cX0_dropOldest 19 = .ok (.iconst 1, 1) := by decide +kernel
theorem dX0_dropOldest_20 : decode cX0_dropOldest 20 = .ok (.isub, 1) := by decide +kernel
theorem dX0_dropOldest_21 : decode cX0_dropOldest 21 = .ok (.aload_n 0, 1) := by decide +kernel
theorem dX0_dropOldest_22 : decode cX0_dropOldest 22 = .ok (.getfield 11, 3) := by decide +kernel
theorem dX0_dropOldest_25 : decode cX0_dropOldest 25 = .ok (.iload_n 2, 1) := by decide +kernel
theorem dX0_dropOldest_26 : decode cX0_dropOldest 26 = .ok (.aaload, 1) := by decide +kernel
theorem dX0_dropOldest_27 : decode cX0_dropOldest 27 = .ok (.aastore, 1) := by decide +kernel
theorem dX0_dropOldest_28 : decode cX0_dropOldest 28 = .ok (.iinc 2 1, 3) := by decide +kernel
theorem dX0_dropOldest_31 : decode cX0_dropOldest 31 = .ok (.goto (-22), 3) := by decide +kernel
theorem dX0_dropOldest_34 : decode cX0_dropOldest 34 = .ok (.aload_n 0, 1) := by decide +kernel
theorem dX0_dropOldest_35 : decode cX0_dropOldest 35 = .ok (.getfield 11, 3) := by decide +kernel
theorem dX0_dropOldest_38 : decode cX0_dropOldest 38 = .ok (.iconst 3, 1) := by decide +kernel
theorem dX0_dropOldest_39 : decode cX0_dropOldest 39 = .ok (.aload_n 1, 1) := by decide +kernel
theorem dX0_dropOldest_40 : decode cX0_dropOldest 40 = .ok (.aastore, 1) := by decide +kernel
theorem dX0_dropOldest_41 : decode cX0_dropOldest 41 = .ok (.aload_n 0, 1) := by decide +kernel
theorem dX0_dropOldest_42 : decode cX0_dropOldest 42 = .ok (.iconst 3, 1) := by decide +kernel
theorem dX0_dropOldest_43 : decode cX0_dropOldest 43 = .ok (.putfield 17, 3) := by decide +kernel
theorem dX0_dropOldest_46 : decode cX0_dropOldest 46 = .ok (.return_, 1) := by decide +kernel
theorem dX0_takeBackInto_0 : decode cX0_takeBackInto 0 = .ok (.aload_n 0, 1) := by decide +kernel
theorem dX0_takeBackInto_1 : decode cX0_takeBackInto 1 = .ok (.getfield 17, 3) := by decide +kernel
theorem dX0_takeBackInto_4 : decode cX0_takeBackInto 4 = .ok (.iconst 1, 1) := by decide +kernel
theorem dX0_takeBackInto_5 : decode cX0_takeBackInto 5 = .ok (.iconst 4, 1) := by decide +kernel
theorem dX0_takeBackInto_6 : decode cX0_takeBackInto 6 = .ok (.invokestatic 25, 3) := by decide +kernel
theorem dX0_takeBackInto_9 : decode cX0_takeBackInto 9 = .ok (.ifCond .eq 40, 3) := by decide +kernel
theorem dX0_takeBackInto_12 : decode cX0_takeBackInto 12 = .ok (.aload_n 0, 1) := by decide +kernel
theorem dX0_takeBackInto_13 : decode cX0_takeBackInto 13 = .ok (.getfield 11, 3) := by decide +kernel
theorem dX0_takeBackInto_16 : decode cX0_takeBackInto 16 = .ok (.aload_n 0, 1) := by decide +kernel
theorem dX0_takeBackInto_17 : decode cX0_takeBackInto 17 = .ok (.getfield 17, 3) := by decide +kernel
theorem dX0_takeBackInto_20 : decode cX0_takeBackInto 20 = .ok (.iconst 1, 1) := by decide +kernel
theorem dX0_takeBackInto_21 : decode cX0_takeBackInto 21 = .ok (.isub, 1) := by decide +kernel
theorem dX0_takeBackInto_22 : decode cX0_takeBackInto 22 = .ok (.aaload, 1) := by decide +kernel
theorem dX0_takeBackInto_23 : decode cX0_takeBackInto 23 = .ok (.ifnull 26, 3) := by decide +kernel
theorem dX0_takeBackInto_26 : decode cX0_takeBackInto 26 = .ok (.aload_n 0, 1) := by decide +kernel
theorem dX0_takeBackInto_27 : decode cX0_takeBackInto 27 = .ok (.dup, 1) := by decide +kernel
theorem dX0_takeBackInto_28 : decode cX0_takeBackInto 28 = .ok (.getfield 17, 3) := by decide +kernel
theorem dX0_takeBackInto_31 : decode cX0_takeBackInto 31 = .ok (.iconst 1, 1) := by decide +kernel
theorem dX0_takeBackInto_32 : decode cX0_takeBackInto 32 = .ok (.isub, 1) := by decide +kernel
theorem dX0_takeBackInto_33 : decode cX0_takeBackInto 33 = .ok (.putfield 17, 3) := by decide +kernel
theorem dX0_takeBackInto_36 : decode cX0_takeBackInto 36 = .ok (.aload_n 1, 1) := by decide +kernel
theorem dX0_takeBackInto_37 : decode cX0_takeBackInto 37 = .ok (.aload_n 0, 1) := by decide +kernel
theorem dX0_takeBackInto_38 : decode cX0_takeBackInto 38 = .ok (.getfield 11, 3) := by decide +kernel
theorem dX0_takeBackInto_41 : decode cX0_takeBackInto 41 = .ok (.aload_n 0, 1) := by decide +kernel
theorem dX0_takeBackInto_42 : decode cX0_takeBackInto 42 = .ok (.getfield 17, 3) := by decide +kernel
theorem dX0_takeBackInto_45 : decode cX0_takeBackInto 45 = .ok (.aaload, 1) := by decide +kernel
theorem dX0_takeBackInto_46 : decode cX0_takeBackInto 46 = .ok (.invokevirtual 29, 3) := by decide +kernel
theorem dX0_takeBackInto_49 : decode cX0_takeBackInto 49 = .ok (.aload_n 0, 1) := by decide +kernel
theorem dX0_takeBackInto_50 : decode cX0_takeBackInto 50 = .ok (.getfield 17, 3) := by decide +kernel
theorem dX0_takeBackInto_53 : decode cX0_takeBackInto 53 = .ok (.ireturn, 1) := by decide +kernel
theorem dX1_init_0 : decode cX1_init 0 = .ok (.aload_n 0, 1) := by decide +kernel
theorem dX1_init_1 : decode cX1_init 1 = .ok (.invokespecial 3, 3) := by decide +kernel
theorem dX1_init_4 : decode cX1_init 4 = .ok (.aload_n 0, 1) := by decide +kernel
theorem dX1_init_5 : decode cX1_init 5 = .ok (.bipush 40, 2) := by decide +kernel
theorem dX1_init_7 : decode cX1_init 7 = .ok (.newarray .int, 2) := by decide +kernel
theorem dX1_init_9 : decode cX1_init 9 = .ok (.putfield 9, 3) := by decide +kernel
theorem dX1_init_12 : decode cX1_init 12 = .ok (.aload_n 0, 1) := by decide +kernel
theorem dX1_init_13 : decode cX1_init 13 = .ok (.bipush 40, 2) := by decide +kernel
theorem dX1_init_15 : decode cX1_init 15 = .ok (.newarray .int, 2) := by decide +kernel
theorem dX1_init_17 : decode cX1_init 17 = .ok (.putfield 15, 3) := by decide +kernel
theorem dX1_init_20 : decode cX1_init 20 = .ok (.aload_n 0, 1) := by decide +kernel
theorem dX1_init_21 : decode cX1_init 21 = .ok (.bipush 40, 2) := by decide +kernel
theorem dX1_init_23 : decode cX1_init 23 = .ok (.newarray .int, 2) := by decide +kernel
theorem dX1_init_25 : decode cX1_init 25 = .ok (.putfield 18, 3) := by decide +kernel
theorem dX1_init_28 : decode cX1_init 28 = .ok (.aload_n 0, 1) := by decide +kernel
theorem dX1_init_29 : decode cX1_init 29 = .ok (.bipush 40, 2) := by decide +kernel
theorem dX1_init_31 : decode cX1_init 31 = .ok (.newarray .int, 2) := by decide +kernel
theorem dX1_init_33 : decode cX1_init 33 = .ok (.putfield 21, 3) := by decide +kernel
theorem dX1_init_36 : decode cX1_init 36 = .ok (.aload_n 0, 1) := by decide +kernel
theorem dX1_init_37 : decode cX1_init 37 = .ok (.bipush 40, 2) := by decide +kernel
theorem dX1_init_39 : decode cX1_init 39 = .ok (.newarray .int, 2) := by decide +kernel
theorem dX1_init_41 : decode cX1_init 41 = .ok (.putfield 24, 3) := by decide +kernel
theorem dX1_init_44 : decode cX1_init 44 = .ok (.aload_n 0, 1) := by decide +kernel
theorem dX1_init_45 : decode cX1_init 45 = .ok (.bipush 40, 2) := by decide +kernel
theorem dX1_init_47 : decode cX1_init 47 = .ok (.newarray .int, 2) := by decide +kernel
theorem dX1_init_49 : decode cX1_init 49 = .ok (.putfield 27, 3) := by decide +kernel
theorem dX1_init_52 : decode cX1_init 52 = .ok (.aload_n 0, 1) := by decide +kernel
theorem dX1_init_53 : decode cX1_init 53 = .ok (.bipush 40, 2) := by decide +kernel
theorem dX1_init_55 : decode cX1_init 55 = .ok (.newarray .int, 2) := by decide +kernel
theorem dX1_init_57 : decode cX1_init 57 = .ok (.putfield 30, 3) := by decide +kernel
theorem dX1_init_60 : decode cX1_init 60 = .ok (.aload_n 0, 1) := by decide +kernel
theorem dX1_init_61 : decode cX1_init 61 = .ok (.bipush 40, 2) := by decide +kernel
theorem dX1_init_63 : decode cX1_init 63 = .ok (.newarray .int, 2) := by decide +kernel
theorem dX1_init_65 : decode cX1_init 65 = .ok (.putfield 33, 3) := by decide +kernel
theorem dX1_init_68 : decode cX1_init 68 = .ok (.aload_n 0, 1) := by decide +kernel
theorem dX1_init_69 : decode cX1_init 69 = .ok (.bipush 40, 2) := by decide +kernel
theorem dX1_init_71 : decode cX1_init 71 = .ok (.newarray .int, 2) := by decide +kernel
theorem dX1_init_73 : decode cX1_init 73 = .ok (.putfield 36, 3) := by decide +kernel
theorem dX1_init_76 : decode cX1_init 76 = .ok (.aload_n 0, 1) := by decide +kernel
theorem dX1_init_77 : decode cX1_init 77 = .ok (.bipush 40, 2) := by decide +kernel
theorem dX1_init_79 : decode cX1_init 79 = .ok (.newarray .int, 2) := by decide +kernel
theorem dX1_init_81 : decode cX1_init 81 = .ok (.putfield 39, 3) := by decide +kernel
theorem dX1_init_84 : decode cX1_init 84 = .ok (.aload_n 0, 1) := by decide +kernel
theorem dX1_init_85 : decode cX1_init 85 = .ok (.iconst 0, 1) := by decide +kernel
theorem dX1_init_86 : decode cX1_init 86 = .ok (.putfield 42, 3) := by decide +kernel
theorem dX1_init_89 : decode cX1_init 89 = .ok (.aload_n 0, 1) := by decide +kernel
theorem dX1_init_90 : decode cX1_init 90 = .ok (.iconst 0, 1) := by decide +kernel
theorem dX1_init_91 : decode cX1_init 91 = .ok (.putfield 46, 3) := by decide +kernel
theorem dX1_init_94 : decode cX1_init 94 = .ok (.return_, 1) := by decide +kernel
theorem dX1_judge_0 : decode cX1_judge 0 = .ok (.iconst 0, 1) := by decide +kernel
theorem dX1_judge_1 : decode cX1_judge 1 = .ok (.istore_n 2, 1) := by decide +kernel
theorem dX1_judge_2 : decode cX1_judge 2 = .ok (.iload_n 2, 1) := by decide +kernel
theorem dX1_judge_3 : decode cX1_judge 3 = .ok (.aload_n 1, 1) := by decide +kernel
theorem dX1_judge_4 : decode cX1_judge 4 = .ok (.getfield 49, 3) := by decide +kernel
theorem dX1_judge_7 : decode cX1_judge 7 = .ok (.invokevirtual 55, 3) := by decide +kernel
theorem dX1_judge_10 : decode cX1_judge 10 = .ok (.if_icmp .ge 15, 3) := by decide +kernel
theorem dX1_judge_13 : decode cX1_judge 13 = .ok (.aload_n 0, 1) := by decide +kernel
theorem dX1_judge_14 : decode cX1_judge 14 = .ok (.aload_n 1, 1) := by decide +kernel
theorem dX1_judge_15 : decode cX1_judge 15 = .ok (.iload_n 2, 1) := by decide +kernel
theorem dX1_judge_16 : decode cX1_judge 16 = .ok (.invokevirtual 61, 3) := by decide +kernel
theorem dX1_judge_19 : decode cX1_judge 19 = .ok (.iinc 2 1, 3) := by decide +kernel
theorem dX1_judge_22 : decode cX1_judge 22 = .ok (.goto (-20), 3) := by decide +kernel
theorem dX1_judge_25 : decode cX1_judge 25 = .ok (.aload_n 0, 1) := by decide +kernel
theorem dX1_judge_26 : decode cX1_judge 26 = .ok (.aload_n 1, 1) := by decide +kernel
theorem dX1_judge_27 : decode cX1_judge 27 = .ok (.getfield 49, 3) := by decide +kernel
theorem dX1_judge_30 : decode cX1_judge 30 = .ok (.invokevirtual 65, 3) := by decide +kernel
theorem dX1_judge_33 : decode cX1_judge 33 = .ok (.return_, 1) := by decide +kernel
theorem dX1_judgePerfect_0 : decode cX1_judgePerfect 0 = .ok (.aload_n 1, 1) := by decide +kernel
theorem dX1_judgePerfect_1 : decode cX1_judgePerfect 1 = .ok (.getfield 49, 3) := by decide +kernel
theorem dX1_judgePerfect_4 : decode cX1_judgePerfect 4 = .ok (.astore_n 2, 1) := by decide +kernel
theorem dX1_judgePerfect_5 : decode cX1_judgePerfect 5 = .ok (.iconst 0, 1) := by decide +kernel
theorem dX1_judgePerfect_6 : decode cX1_judgePerfect 6 = .ok (.istore_n 3, 1) := by decide +kernel
theorem dX1_judgePerfect_7 : decode cX1_judgePerfect 7 = .ok (.iload_n 3, 1) := by decide +kernel
theorem dX1_judgePerfect_8 : decode cX1_judgePerfect 8 = .ok (.aload_n 2, 1) := by decide +kernel
theorem dX1_judgePerfect_9 : decode cX1_judgePerfect 9 = .ok (.invokevirtual 55, 3) := by decide +kernel
theorem dX1_judgePerfect_12 : decode cX1_judgePerfect 12 = .ok (.if_icmp .ge 68, 3) := by decide +kernel
theorem dX1_judgePerfect_15 : decode cX1_judgePerfect 15 = .ok (.iload_n 3, 1) := by decide +kernel
theorem dX1_judgePerfect_16 : decode cX1_judgePerfect 16 = .ok (.bipush 40, 2) := by decide +kernel
theorem dX1_judgePerfect_18 : decode cX1_judgePerfect 18 = .ok (.if_icmp .ge 62, 3) := by decide +kernel
theorem dX1_judgePerfect_21 : decode cX1_judgePerfect 21 = .ok (.aload_n 0, 1) := by decide +kernel
theorem dX1_judgePerfect_22 : decode cX1_judgePerfect 22 = .ok (.getfield 9, 3) := by decide +kernel
theorem dX1_judgePerfect_25 : decode cX1_judgePerfect 25 = .ok (.iload_n 3, 1) := by decide +kernel
theorem dX1_judgePerfect_26 : decode cX1_judgePerfect 26 = .ok (.aload_n 2, 1) := by decide +kernel
theorem dX1_judgePerfect_27 : decode cX1_judgePerfect 27 = .ok (.iload_n 3, 1) := by decide +kernel
theorem dX1_judgePerfect_28 : decode cX1_judgePerfect 28 = .ok (.invokevirtual 69, 3) := by decide +kernel
theorem dX1_judgePerfect_31 : decode cX1_judgePerfect 31 = .ok (.iastore, 1) := by decide +kernel
theorem dX1_judgePerfect_32 : decode cX1_judgePerfect 32 = .ok (.aload_n 0, 1) := by decide +kernel
theorem dX1_judgePerfect_33 : decode cX1_judgePerfect 33 = .ok (.getfield 15, 3) := by decide +kernel
theorem dX1_judgePerfect_36 : decode cX1_judgePerfect 36 = .ok (.iload_n 3, 1) := by decide +kernel
theorem dX1_judgePerfect_37 : decode cX1_judgePerfect 37 = .ok (.bipush 100, 2) := by decide +kernel
theorem dX1_judgePerfect_39 : decode cX1_judgePerfect 39 = .ok (.iastore, 1) := by decide +kernel
theorem dX1_judgePerfect_40 : decode cX1_judgePerfect 40 = .ok (.aload_n 0, 1) := by decide +kernel
theorem dX1_judgePerfect_41 : decode cX1_judgePerfect 41 = .ok (.getfield 18, 3) := by decide +kernel
theorem dX1_judgePerfect_44 : decode cX1_judgePerfect 44 = .ok (.iload_n 3, 1) := by decide +kernel
theorem dX1_judgePerfect_45 : decode cX1_judgePerfect 45 = .ok (.aload_n 2, 1) := by decide +kernel
theorem dX1_judgePerfect_46 : decode cX1_judgePerfect 46 = .ok (.iload_n 3, 1) := by decide +kernel
theorem dX1_judgePerfect_47 : decode cX1_judgePerfect 47 = .ok (.aload_n 1, 1) := by decide +kernel
theorem dX1_judgePerfect_48 : decode cX1_judgePerfect 48 = .ok (.iconst 0, 1) := by decide +kernel
theorem dX1_judgePerfect_49 : decode cX1_judgePerfect 49 = .ok (.invokevirtual 73, 3) := by decide +kernel
theorem dX1_judgePerfect_52 : decode cX1_judgePerfect 52 = .ok (.invokevirtual 76, 3) := by decide +kernel
theorem dX1_judgePerfect_55 : decode cX1_judgePerfect 55 = .ok (.iastore, 1) := by decide +kernel
theorem dX1_judgePerfect_56 : decode cX1_judgePerfect 56 = .ok (.aload_n 0, 1) := by decide +kernel
theorem dX1_judgePerfect_57 : decode cX1_judgePerfect 57 = .ok (.getfield 21, 3) := by decide +kernel
theorem dX1_judgePerfect_60 : decode cX1_judgePerfect 60 = .ok (.iload_n 3, 1) := by decide +kernel
theorem dX1_judgePerfect_61 : decode cX1_judgePerfect 61 = .ok (.aload_n 2, 1) := by decide +kernel
theorem dX1_judgePerfect_62 : decode cX1_judgePerfect 62 = .ok (.iload_n 3, 1) := by decide +kernel
theorem dX1_judgePerfect_63 : decode cX1_judgePerfect 63 = .ok (.invokevirtual 80, 3) := by decide +kernel
theorem dX1_judgePerfect_66 : decode cX1_judgePerfect 66 = .ok (.iastore, 1) := by decide +kernel
theorem dX1_judgePerfect_67 : decode cX1_judgePerfect 67 = .ok (.aload_n 0, 1) := by decide +kernel
theorem dX1_judgePerfect_68 : decode cX1_judgePerfect 68 = .ok (.getfield 24, 3) := by decide +kernel
theorem dX1_judgePerfect_71 : decode cX1_judgePerfect 71 = .ok (.iload_n 3, 1) := by decide +kernel
theorem dX1_judgePerfect_72 : decode cX1_judgePerfect 72 = .ok (.iconst 0, 1) := by decide +kernel
theorem dX1_judgePerfect_73 : decode cX1_judgePerfect 73 = .ok (.iastore, 1) := by decide +kernel
theorem dX1_judgePerfect_74 : decode cX1_judgePerfect 74 = .ok (.iinc 3 1, 3) := by decide +kernel
theorem dX1_judgePerfect_77 : decode cX1_judgePerfect 77 = .ok (.goto (-70), 3) := by decide +kernel
theorem dX1_judgePerfect_80 : decode cX1_judgePerfect 80 = .ok (.aload_n 0, 1) := by decide +kernel
theorem dX1_judgePerfect_81 : decode cX1_judgePerfect 81 = .ok (.aload_n 2, 1) := by decide +kernel
theorem dX1_judgePerfect_82 : decode cX1_judgePerfect 82 = .ok (.invokevirtual 65, 3) := by decide +kernel
theorem dX1_judgePerfect_85 : decode cX1_judgePerfect 85 = .ok (.return_, 1) := by decide +kernel
theorem dX1_hear_0 : decode cX1_hear 0 = .ok (.iload_n 2, 1) := by decide +kernel
theorem dX1_hear_1 : decode cX1_hear 1 = .ok (.iconst 0, 1) := by decide +kernel
theorem dX1_hear_2 : decode cX1_hear 2 = .ok (.bipush 39, 2) := by decide +kernel
theorem dX1_hear_4 : decode cX1_hear 4 = .ok (.invokestatic 83, 3) := by decide +kernel
theorem dX1_hear_7 : decode cX1_hear 7 = .ok (.ifCond .ne 4, 3) := by decide +kernel
theorem dX1_hear_10 : decode cX1_hear 10 = .ok (.return_, 1) := by decide +kernel
theorem dX1_hear_11 : decode cX1_hear 11 = .ok (.aload_n 1, 1) := by decide +kernel
theorem dX1_hear_12 : decode cX1_hear 12 = .ok (.getfield 49, 3) := by decide +kernel
theorem dX1_hear_15 : decode cX1_hear 15 = .ok (.astore_n 3, 1) := by decide +kernel
theorem dX1_hear_16 : decode cX1_hear 16 = .ok (.aload_n 3, 1) := by decide +kernel
theorem dX1_hear_17 : decode cX1_hear 17 = .ok (.iload_n 2, 1) := by decide +kernel
theorem dX1_hear_18 : decode cX1_hear 18 = .ok (.invokevirtual 69, 3) := by decide +kernel
theorem dX1_hear_21 : decode cX1_hear 21 = .ok (.istore 4, 2) := by decide +kernel
theorem dX1_hear_23 : decode cX1_hear 23 = .ok (.aload_n 3, 1) := by decide +kernel
theorem dX1_hear_24 : decode cX1_hear 24 = .ok (.iload_n 2, 1) := by decide +kernel
theorem dX1_hear_25 : decode cX1_hear 25 = .ok (.invokevirtual 80, 3) := by decide +kernel
theorem dX1_hear_28 : decode cX1_hear 28 = .ok (.istore 5, 2) := by decide +kernel
theorem dX1_hear_30 : decode cX1_hear 30 = .ok (.aload_n 1, 1) := by decide +kernel
theorem dX1_hear_31 : decode cX1_hear 31 = .ok (.iconst 0, 1) := by decide +kernel
theorem dX1_hear_32 : decode cX1_hear 32 = .ok (.invokevirtual 73, 3) := by decide +kernel
theorem dX1_hear_35 : decode cX1_hear 35 = .ok (.istore 6, 2) := by decide +kernel
theorem dX1_hear_37 : decode cX1_hear 37 = .ok (.iconst 0, 1) := by decide +kernel
theorem dX1_hear_38 : decode cX1_hear 38 = .ok (.istore 7, 2) := by decide +kernel
theorem dX1_hear_40 : decode cX1_hear 40 = .ok (.iconst 0, 1) := by decide +kernel
theorem dX1_hear_41 : decode cX1_hear 41 = .ok (.istore 8, 2) := by decide +kernel
theorem dX1_hear_43 : decode cX1_hear 43 = .ok (.iconst 0, 1) := by decide +kernel
theorem dX1_hear_44 : decode cX1_hear 44 = .ok (.istore 9, 2) := by decide +kernel
theorem dX1_hear_46 : decode cX1_hear 46 = .ok (.iconst 0, 1) := by decide +kernel
theorem dX1_hear_47 : decode cX1_hear 47 = .ok (.istore 10, 2) := by decide +kernel
theorem dX1_hear_49 : decode cX1_hear 49 = .ok (.iconst 0, 1) := by decide +kernel
theorem dX1_hear_50 : decode cX1_hear 50 = .ok (.istore 11, 2) := by decide +kernel
theorem dX1_hear_52 : decode cX1_hear 52 = .ok (.iload 11, 2) := by decide +kernel
theorem dX1_hear_54 : decode cX1_hear 54 = .ok (.iload 4, 2) := by decide +kernel
theorem dX1_hear_56 : decode cX1_hear 56 = .ok (.if_icmp .ge 103, 3) := by decide +kernel
theorem dX1_hear_59 : decode cX1_hear 59 = .ok (.aload_n 1, 1) := by decide +kernel
theorem dX1_hear_60 : decode cX1_hear 60 = .ok (.iload 5, 2) := by decide +kernel
theorem dX1_hear_62 : decode cX1_hear 62 = .ok (.iload 11, 2) := by decide +kernel
theorem dX1_hear_64 : decode cX1_hear 64 = .ok (.iadd, 1) := by decide +kernel
theorem dX1_hear_65 : decode cX1_hear 65 = .ok (.invokevirtual 87, 3) := by decide +kernel
theorem dX1_hear_68 : decode cX1_hear 68 = .ok (.istore 12, 2) := by decide +kernel
theorem dX1_hear_70 : decode cX1_hear 70 = .ok (.aload_n 1, 1) := by decide +kernel
theorem dX1_hear_71 : decode cX1_hear 71 = .ok (.iload 12, 2) := by decide +kernel
theorem dX1_hear_73 : decode cX1_hear 73 = .ok (.aload_n 3, 1) := by decide +kernel
theorem dX1_hear_74 : decode cX1_hear 74 = .ok (.iload_n 2, 1) := by decide +kernel
theorem dX1_hear_75 : decode cX1_hear 75 = .ok (.iload 11, 2) := by decide +kernel
theorem dX1_hear_77 : decode cX1_hear 77 = .ok (.invokevirtual 90, 3) := by decide +kernel
theorem dX1_hear_80 : decode cX1_hear 80 = .ok (.invokevirtual 93, 3) := by decide +kernel
theorem dX1_hear_83 : decode cX1_hear 83 = .ok (.istore 13, 2) := by decide +kernel
theorem dX1_hear_85 : decode cX1_hear 85 = .ok (.iload 7, 2) := by decide +kernel
theorem dX1_hear_87 : decode cX1_hear 87 = .ok (.iload 12, 2) := by decide +kernel
theorem dX1_hear_89 : decode cX1_hear 89 = .ok (.iconst (-1), 1) := by decide +kernel
theorem dX1_hear_90 : decode cX1_hear 90 = .ok (.if_icmp .ne 7, 3) := by decide +kernel
theorem dX1_hear_93 : decode cX1_hear 93 = .ok (.iconst 0, 1) := by decide +kernel
theorem dX1_hear_94 : decode cX1_hear 94 = .ok (.goto 4, 3) := by decide +kernel
theorem dX1_hear_97 : decode cX1_hear 97 = .ok (.iconst 1, 1) := by decide +kernel
theorem dX1_hear_98 : decode cX1_hear 98 = .ok (.iadd, 1) := by decide +kernel
theorem dX1_hear_99 : decode cX1_hear 99 = .ok (.istore 7, 2) := by decide +kernel
theorem dX1_hear_101 : decode cX1_hear 101 = .ok (.iload 8, 2) := by decide +kernel
theorem dX1_hear_103 : decode cX1_hear 103 = .ok (.iload 13, 2) := by decide +kernel
theorem dX1_hear_105 : decode cX1_hear 105 = .ok (.ifCond .eq 7, 3) := by decide +kernel
theorem dX1_hear_108 : decode cX1_hear 108 = .ok (.iconst 1, 1) := by decide +kernel
theorem dX1_hear_109 : decode cX1_hear 109 = .ok (.goto 4, 3) := by decide +kernel
theorem dX1_hear_112 : decode cX1_hear 112 = .ok (.iconst 0, 1) := by decide +kernel
theorem dX1_hear_113 : decode cX1_hear 113 = .ok (.iadd, 1) := by decide +kernel
theorem dX1_hear_114 : decode cX1_hear 114 = .ok (.istore 8, 2) := by decide +kernel
theorem dX1_hear_116 : decode cX1_hear 116 = .ok (.iload 9, 2) := by decide +kernel
theorem dX1_hear_118 : decode cX1_hear 118 = .ok (.iload 13, 2) := by decide +kernel
theorem dX1_hear_120 : decode cX1_hear 120 = .ok (.ifCond .eq 25, 3) := by decide +kernel
theorem dX1_hear_123 : decode cX1_hear 123 = .ok (.iload 10, 2) := by decide +kernel
theorem dX1_hear_125 : decode cX1_hear 125 = .ok (.ifCond .eq 20, 3) := by decide +kernel
theorem dX1_hear_128 : decode cX1_hear 128 = .ok (.iload 5, 2) := by decide +kernel
theorem dX1_hear_130 : decode cX1_hear 130 = .ok (.iload 11, 2) := by decide +kernel
theorem dX1_hear_132 : decode cX1_hear 132 = .ok (.iadd, 1) := by decide +kernel
theorem dX1_hear_133 : decode cX1_hear 133 = .ok (.iload 6, 2) := by decide +kernel
theorem dX1_hear_135 : decode cX1_hear 135 = .ok (.invokestatic 97, 3) := by decide +kernel
theorem dX1_hear_138 : decode cX1_hear 138 = .ok (.ifCond .eq 7, 3) := by decide +kernel
theorem dX1_hear_141 : decode cX1_hear 141 = .ok (.iconst 1, 1) := by decide +kernel
theorem dX1_hear_142 : decode cX1_hear 142 = .ok (.goto 4, 3) := by decide +kernel
theorem dX1_hear_145 : decode cX1_hear 145 = .ok (.iconst 0, 1) := by decide +kernel
theorem dX1_hear_146 : decode cX1_hear 146 = .ok (.iadd, 1) := by decide +kernel
theorem dX1_hear_147 : decode cX1_hear 147 = .ok (.istore 9, 2) := by decide +kernel
theorem dX1_hear_149 : decode cX1_hear 149 = .ok (.iload 13, 2) := by decide +kernel
theorem dX1_hear_151 : decode cX1_hear 151 = .ok (.istore 10, 2) := by decide +kernel
theorem dX1_hear_153 : decode cX1_hear 153 = .ok (.iinc 11 1, 3) := by decide +kernel
theorem dX1_hear_156 : decode cX1_hear 156 = .ok (.goto (-104), 3) := by decide +kernel
theorem dX1_hear_159 : decode cX1_hear 159 = .ok (.aload_n 0, 1) := by decide +kernel
theorem dX1_hear_160 : decode cX1_hear 160 = .ok (.getfield 9, 3) := by decide +kernel
theorem dX1_hear_163 : decode cX1_hear 163 = .ok (.iload_n 2, 1) := by decide +kernel
theorem dX1_hear_164 : decode cX1_hear 164 = .ok (.iload 8, 2) := by decide +kernel
theorem dX1_hear_166 : decode cX1_hear 166 = .ok (.iastore, 1) := by decide +kernel
theorem dX1_hear_167 : decode cX1_hear 167 = .ok (.aload_n 0, 1) := by decide +kernel
theorem dX1_hear_168 : decode cX1_hear 168 = .ok (.getfield 15, 3) := by decide +kernel
theorem dX1_hear_171 : decode cX1_hear 171 = .ok (.iload_n 2, 1) := by decide +kernel
theorem dX1_hear_172 : decode cX1_hear 172 = .ok (.iload 4, 2) := by decide +kernel
theorem dX1_hear_174 : decode cX1_hear 174 = .ok (.iconst 1, 1) := by decide +kernel
theorem dX1_hear_175 : decode cX1_hear 175 = .ok (.if_icmp .ge 7, 3) := by decide +kernel
theorem dX1_hear_178 : decode cX1_hear 178 = .ok (.iconst 0, 1) := by decide +kernel
theorem dX1_hear_179 : decode cX1_hear 179 = .ok (.goto 11, 3) := by decide +kernel
theorem dX1_hear_182 : decode cX1_hear 182 = .ok (.iload 8, 2) := by decide +kernel
theorem dX1_hear_184 : decode cX1_hear 184 = .ok (.bipush 100, 2) := by decide +kernel
theorem dX1_hear_186 : decode cX1_hear 186 = .ok (.imul, 1) := by decide +kernel
theorem dX1_hear_187 : decode cX1_hear 187 = .ok (.iload 4, 2) := by decide +kernel
theorem dX1_hear_189 : decode cX1_hear 189 = .ok (.idiv, 1) := by decide +kernel
theorem dX1_hear_190 : decode cX1_hear 190 = .ok (.iastore, 1) := by decide +kernel
theorem dX1_hear_191 : decode cX1_hear 191 = .ok (.aload_n 0, 1) := by decide +kernel
theorem dX1_hear_192 : decode cX1_hear 192 = .ok (.getfield 18, 3) := by decide +kernel
theorem dX1_hear_195 : decode cX1_hear 195 = .ok (.iload_n 2, 1) := by decide +kernel
theorem dX1_hear_196 : decode cX1_hear 196 = .ok (.iload 9, 2) := by decide +kernel
theorem dX1_hear_198 : decode cX1_hear 198 = .ok (.iastore, 1) := by decide +kernel
theorem dX1_hear_199 : decode cX1_hear 199 = .ok (.aload_n 0, 1) := by decide +kernel
theorem dX1_hear_200 : decode cX1_hear 200 = .ok (.getfield 21, 3) := by decide +kernel
theorem dX1_hear_203 : decode cX1_hear 203 = .ok (.iload_n 2, 1) := by decide +kernel
theorem dX1_hear_204 : decode cX1_hear 204 = .ok (.aload_n 1, 1) := by decide +kernel
theorem dX1_hear_205 : decode cX1_hear 205 = .ok (.iload 5, 2) := by decide +kernel
theorem dX1_hear_207 : decode cX1_hear 207 = .ok (.invokevirtual 100, 3) := by decide +kernel
theorem dX1_hear_210 : decode cX1_hear 210 = .ok (.iastore, 1) := by decide +kernel
theorem dX1_hear_211 : decode cX1_hear 211 = .ok (.aload_n 0, 1) := by decide +kernel
theorem dX1_hear_212 : decode cX1_hear 212 = .ok (.getfield 24, 3) := by decide +kernel
theorem dX1_hear_215 : decode cX1_hear 215 = .ok (.iload_n 2, 1) := by decide +kernel
theorem dX1_hear_216 : decode cX1_hear 216 = .ok (.aload_n 0, 1) := by decide +kernel
theorem dX1_hear_217 : decode cX1_hear 217 = .ok (.iload_n 2, 1) := by decide +kernel
theorem dX1_hear_218 : decode cX1_hear 218 = .ok (.iload 7, 2) := by decide +kernel
theorem dX1_hear_220 : decode cX1_hear 220 = .ok (.aload_n 1, 1) := by decide +kernel
theorem dX1_hear_221 : decode cX1_hear 221 = .ok (.iconst 4, 1) := by decide +kernel
theorem dX1_hear_222 : decode cX1_hear 222 = .ok (.invokevirtual 73, 3) := by decide +kernel
theorem dX1_hear_225 : decode cX1_hear 225 = .ok (.invokevirtual 103, 3) := by decide +kernel
theorem dX1_hear_228 : decode cX1_hear 228 = .ok (.iastore, 1) := by decide +kernel
theorem dX1_hear_229 : decode cX1_hear 229 = .ok (.return_, 1) := by decide +kernel
theorem dX1_isBarLine_0 : decode cX1_isBarLine 0 = .ok (.iload_n 1, 1) := by decide +kernel
theorem dX1_isBarLine_1 : decode cX1_isBarLine 1 = .ok (.ifCond .le 17, 3) := by decide +kernel
theorem dX1_isBarLine_4 : decode cX1_isBarLine 4 = .ok (.iload_n 0, 1) := by decide +kernel
theorem dX1_isBarLine_5 : decode cX1_isBarLine 5 = .ok (.ifCond .le 13, 3) := by decide +kernel
theorem dX1_isBarLine_8 : decode cX1_isBarLine 8 = .ok (.iload_n 0, 1) := by decide +kernel
theorem dX1_isBarLine_9 : decode cX1_isBarLine 9 = .ok (.iload_n 1, 1) := by decide +kernel
theorem dX1_isBarLine_10 : decode cX1_isBarLine 10 = .ok (.irem, 1) := by decide +kernel
theorem dX1_isBarLine_11 : decode cX1_isBarLine 11 = .ok (.ifCond .ne 7, 3) := by decide +kernel
theorem dX1_isBarLine_14 : decode cX1_isBarLine 14 = .ok (.iconst 1, 1) := by decide +kernel
theorem dX1_isBarLine_15 : decode cX1_isBarLine 15 = .ok (.goto 4, 3) := by decide +kernel
theorem dX1_isBarLine_18 : decode cX1_isBarLine 18 = .ok (.iconst 0, 1) := by decide +kernel
theorem dX1_isBarLine_19 : decode cX1_isBarLine 19 = .ok (.ireturn, 1) := by decide +kernel
theorem dX1_reasonFor_0 : decode cX1_reasonFor 0 = .ok (.iload_n 2, 1) := by decide +kernel
theorem dX1_reasonFor_1 : decode cX1_reasonFor 1 = .ok (.ifCond .ne 5, 3) := by decide +kernel
theorem dX1_reasonFor_4 : decode cX1_reasonFor 4 = .ok (.iconst 1, 1) := by decide +kernel
theorem dX1_reasonFor_5 : decode cX1_reasonFor 5 = .ok (.ireturn, 1) := by decide +kernel
theorem dX1_reasonFor_6 : decode cX1_reasonFor 6 = .ok (.aload_n 0, 1) := by decide +kernel
theorem dX1_reasonFor_7 : decode cX1_reasonFor 7 = .ok (.iload_n 1, 1) := by decide +kernel
theorem dX1_reasonFor_8 : decode cX1_reasonFor 8 = .ok (.invokevirtual 107, 3) := by decide +kernel
theorem dX1_reasonFor_11 : decode cX1_reasonFor 11 = .ok (.ifCond .ne 5, 3) := by decide +kernel
theorem dX1_reasonFor_14 : decode cX1_reasonFor 14 = .ok (.iconst 2, 1) := by decide +kernel
theorem dX1_reasonFor_15 : decode cX1_reasonFor 15 = .ok (.ireturn, 1) := by decide +kernel
theorem dX1_reasonFor_16 : decode cX1_reasonFor 16 = .ok (.aload_n 0, 1) := by decide +kernel
theorem dX1_reasonFor_17 : decode cX1_reasonFor 17 = .ok (.iload_n 1, 1) := by decide +kernel
theorem dX1_reasonFor_18 : decode cX1_reasonFor 18 = .ok (.invokevirtual 110, 3) := by decide +kernel
theorem dX1_reasonFor_21 : decode cX1_reasonFor 21 = .ok (.bipush (-5), 2) := by decide +kernel
theorem dX1_reasonFor_23 : decode cX1_reasonFor 23 = .ok (.if_icmp .ne 5, 3) := by decide +kernel
theorem dX1_reasonFor_26 : decode cX1_reasonFor 26 = .ok (.iconst 3, 1) := by decide +kernel
theorem dX1_reasonFor_27 : decode cX1_reasonFor 27 = .ok (.ireturn, 1) := by decide +kernel
theorem dX1_reasonFor_28 : decode cX1_reasonFor 28 = .ok (.aload_n 0, 1) := by decide +kernel
theorem dX1_reasonFor_29 : decode cX1_reasonFor 29 = .ok (.iload_n 1, 1) := by decide +kernel
theorem dX1_reasonFor_30 : decode cX1_reasonFor 30 = .ok (.invokevirtual 113, 3) := by decide +kernel
theorem dX1_reasonFor_33 : decode cX1_reasonFor 33 = .ok (.iload_n 3, 1) := by decide +kernel
theorem dX1_reasonFor_34 : decode cX1_reasonFor 34 = .ok (.if_icmp .ge 7, 3) := by decide +kernel
theorem dX1_reasonFor_37 : decode cX1_reasonFor 37 = .ok (.iconst 4, 1) := by decide +kernel
theorem dX1_reasonFor_38 : decode cX1_reasonFor 38 = .ok (.goto 4, 3) := by decide +kernel
theorem dX1_reasonFor_41 : decode cX1_reasonFor 41 = .ok (.iconst 0, 1) := by decide +kernel
theorem dX1_reasonFor_42 : decode cX1_reasonFor 42 = .ok (.ireturn, 1) := by decide +kernel
theorem dX1_score_0 : decode cX1_score 0 = .ok (.aload_n 0, 1) := by decide +kernel
theorem dX1_score_1 : decode cX1_score 1 = .ok (.iconst 0, 1) := by decide +kernel
theorem dX1_score_2 : decode cX1_score 2 = .ok (.putfield 42, 3) := by decide +kernel
theorem dX1_score_5 : decode cX1_score 5 = .ok (.aload_n 0, 1) := by decide +kernel
theorem dX1_score_6 : decode cX1_score 6 = .ok (.iconst 0, 1) := by decide +kernel
theorem dX1_score_7 : decode cX1_score 7 = .ok (.putfield 46, 3) := by decide +kernel
theorem dX1_score_10 : decode cX1_score 10 = .ok (.iconst 0, 1) := by decide +kernel
theorem dX1_score_11 : decode cX1_score 11 = .ok (.istore_n 2, 1) := by decide +kernel
theorem dX1_score_12 : decode cX1_score 12 = .ok (.iconst 0, 1) := by decide +kernel
theorem dX1_score_13 : decode cX1_score 13 = .ok (.istore_n 3, 1) := by decide +kernel
theorem dX1_score_14 : decode cX1_score 14 = .ok (.iload_n 3, 1) := by decide +kernel
theorem dX1_score_15 : decode cX1_score 15 = .ok (.aload_n 1, 1) := by decide +kernel
theorem dX1_score_16 : decode cX1_score 16 = .ok (.invokevirtual 55, 3) := by decide +kernel
theorem dX1_score_19 : decode cX1_score 19 = .ok (.if_icmp .ge 149, 3) := by decide +kernel
theorem dX1_score_22 : decode cX1_score 22 = .ok (.iload_n 3, 1) := by decide +kernel
theorem dX1_score_23 : decode cX1_score 23 = .ok (.bipush 40, 2) := by decide +kernel
theorem dX1_score_25 : decode cX1_score 25 = .ok (.if_icmp .ge 143, 3) := by decide +kernel
theorem dX1_score_28 : decode cX1_score 28 = .ok (.aload_n 1, 1) := by decide +kernel
theorem dX1_score_29 : decode cX1_score 29 = .ok (.iload_n 3, 1) := by decide +kernel
theorem dX1_score_30 : decode cX1_score 30 = .ok (.invokevirtual 116, 3) := by decide +kernel
theorem dX1_score_33 : decode cX1_score 33 = .ok (.istore 4, 2) := by decide +kernel
theorem dX1_score_35 : decode cX1_score 35 = .ok (.iload 4, 2) := by decide +kernel
theorem dX1_score_37 : decode cX1_score 37 = .ok (.iconst 0, 1) := by decide +kernel
theorem dX1_score_38 : decode cX1_score 38 = .ok (.bipush 39, 2) := by decide +kernel
theorem dX1_score_40 : decode cX1_score 40 = .ok (.invokestatic 83, 3) := by decide +kernel
theorem dX1_score_43 : decode cX1_score 43 = .ok (.ifCond .ne 4, 3) := by decide +kernel
theorem dX1_score_46 : decode cX1_score 46 = .ok (.return_, 1) := by decide +kernel
theorem dX1_score_47 : decode cX1_score 47 = .ok (.aload_n 1, 1) := by decide +kernel
theorem dX1_score_48 : decode cX1_score 48 = .ok (.iload_n 3, 1) := by decide +kernel
theorem dX1_score_49 : decode cX1_score 49 = .ok (.invokevirtual 119, 3) := by decide +kernel
theorem dX1_score_52 : decode cX1_score 52 = .ok (.ifCond .eq 11, 3) := by decide +kernel
theorem dX1_score_55 : decode cX1_score 55 = .ok (.aload_n 0, 1) := by decide +kernel
theorem dX1_score_56 : decode cX1_score 56 = .ok (.iload 4, 2) := by decide +kernel
theorem dX1_score_58 : decode cX1_score 58 = .ok (.invokevirtual 123, 3) := by decide +kernel
theorem dX1_score_61 : decode cX1_score 61 = .ok (.iconst 0, 1) := by decide +kernel
theorem dX1_score_62 : decode cX1_score 62 = .ok (.istore_n 2, 1) := by decide +kernel
theorem dX1_score_63 : decode cX1_score 63 = .ok (.aload_n 0, 1) := by decide +kernel
theorem dX1_score_64 : decode cX1_score 64 = .ok (.getfield 27, 3) := by decide +kernel
theorem dX1_score_67 : decode cX1_score 67 = .ok (.iload_n 3, 1) := by decide +kernel
theorem dX1_score_68 : decode cX1_score 68 = .ok (.iload_n 2, 1) := by decide +kernel
theorem dX1_score_69 : decode cX1_score 69 = .ok (.bipush 10, 2) := by decide +kernel
theorem dX1_score_71 : decode cX1_score 71 = .ok (.invokestatic 127, 3) := by decide +kernel
theorem dX1_score_74 : decode cX1_score 74 = .ok (.iastore, 1) := by decide +kernel
theorem dX1_score_75 : decode cX1_score 75 = .ok (.aload_n 0, 1) := by decide +kernel
theorem dX1_score_76 : decode cX1_score 76 = .ok (.getfield 30, 3) := by decide +kernel
theorem dX1_score_79 : decode cX1_score 79 = .ok (.iload_n 3, 1) := by decide +kernel
theorem dX1_score_80 : decode cX1_score 80 = .ok (.aload_n 0, 1) := by decide +kernel
theorem dX1_score_81 : decode cX1_score 81 = .ok (.aload_n 1, 1) := by decide +kernel
theorem dX1_score_82 : decode cX1_score 82 = .ok (.iload_n 3, 1) := by decide +kernel
theorem dX1_score_83 : decode cX1_score 83 = .ok (.invokevirtual 132, 3) := by decide +kernel
theorem dX1_score_86 : decode cX1_score 86 = .ok (.iastore, 1) := by decide +kernel
theorem dX1_score_87 : decode cX1_score 87 = .ok (.aload_n 0, 1) := by decide +kernel
theorem dX1_score_88 : decode cX1_score 88 = .ok (.getfield 36, 3) := by decide +kernel
theorem dX1_score_91 : decode cX1_score 91 = .ok (.iload 4, 2) := by decide +kernel
theorem dX1_score_93 : decode cX1_score 93 = .ok (.dup2, 1) := by decide +kernel
theorem dX1_score_94 : decode cX1_score 94 = .ok (.iaload, 1) := by decide +kernel
theorem dX1_score_95 : decode cX1_score 95 = .ok (.aload_n 0, 1) := by decide +kernel
theorem dX1_score_96 : decode cX1_score 96 = .ok (.getfield 30, 3) := by decide +kernel
theorem dX1_score_99 : decode cX1_score 99 = .ok (.iload_n 3, 1) := by decide +kernel
theorem dX1_score_100 : decode cX1_score 100 = .ok (.iaload, 1) := by decide +kernel
theorem dX1_score_101 : decode cX1_score 101 = .ok (.iadd, 1) := by decide +kernel
theorem dX1_score_102 : decode cX1_score 102 = .ok (.iastore, 1) := by decide +kernel
theorem dX1_score_103 : decode cX1_score 103 = .ok (.aload_n 0, 1) := by decide +kernel
theorem dX1_score_104 : decode cX1_score 104 = .ok (.getfield 24, 3) := by decide +kernel
theorem dX1_score_107 : decode cX1_score 107 = .ok (.iload_n 3, 1) := by decide +kernel
theorem dX1_score_108 : decode cX1_score 108 = .ok (.iaload, 1) := by decide +kernel
theorem dX1_score_109 : decode cX1_score 109 = .ok (.ifCond .ne 9, 3) := by decide +kernel
theorem dX1_score_112 : decode cX1_score 112 = .ok (.iload_n 2, 1) := by decide +kernel
theorem dX1_score_113 : decode cX1_score 113 = .ok (.iconst 1, 1) := by decide +kernel
theorem dX1_score_114 : decode cX1_score 114 = .ok (.iadd, 1) := by decide +kernel
theorem dX1_score_115 : decode cX1_score 115 = .ok (.goto 4, 3) := by decide +kernel
theorem dX1_score_118 : decode cX1_score 118 = .ok (.iconst 0, 1) := by decide +kernel
theorem dX1_score_119 : decode cX1_score 119 = .ok (.istore_n 2, 1) := by decide +kernel
theorem dX1_score_120 : decode cX1_score 120 = .ok (.aload_n 0, 1) := by decide +kernel
theorem dX1_score_121 : decode cX1_score 121 = .ok (.getfield 33, 3) := by decide +kernel
theorem dX1_score_124 : decode cX1_score 124 = .ok (.iload 4, 2) := by decide +kernel
theorem dX1_score_126 : decode cX1_score 126 = .ok (.dup2, 1) := by decide +kernel
theorem dX1_score_127 : decode cX1_score 127 = .ok (.iaload, 1) := by decide +kernel
theorem dX1_score_128 : decode cX1_score 128 = .ok (.aload_n 0, 1) := by decide +kernel
theorem dX1_score_129 : decode cX1_score 129 = .ok (.getfield 24, 3) := by decide +kernel
theorem dX1_score_132 : decode cX1_score 132 = .ok (.iload_n 3, 1) := by decide +kernel
theorem dX1_score_133 : decode cX1_score 133 = .ok (.iaload, 1) := by decide +kernel
theorem dX1_score_134 : decode cX1_score 134 = .ok (.ifCond .ne 7, 3) := by decide +kernel
theorem dX1_score_137 : decode cX1_score 137 = .ok (.iconst 1, 1) := by decide +kernel
theorem dX1_score_138 : decode cX1_score 138 = .ok (.goto 4, 3) := by decide +kernel
theorem dX1_score_141 : decode cX1_score 141 = .ok (.iconst 0, 1) := by decide +kernel
theorem dX1_score_142 : decode cX1_score 142 = .ok (.iadd, 1) := by decide +kernel
theorem dX1_score_143 : decode cX1_score 143 = .ok (.iastore, 1) := by decide +kernel
theorem dX1_score_144 : decode cX1_score 144 = .ok (.aload_n 0, 1) := by decide +kernel
theorem dX1_score_145 : decode cX1_score 145 = .ok (.getfield 39, 3) := by decide +kernel
theorem dX1_score_148 : decode cX1_score 148 = .ok (.iload 4, 2) := by decide +kernel
theorem dX1_score_150 : decode cX1_score 150 = .ok (.aload_n 0, 1) := by decide +kernel
theorem dX1_score_151 : decode cX1_score 151 = .ok (.getfield 39, 3) := by decide +kernel
theorem dX1_score_154 : decode cX1_score 154 = .ok (.iload 4, 2) := by decide +kernel
theorem dX1_score_156 : decode cX1_score 156 = .ok (.iaload, 1) := by decide +kernel
theorem dX1_score_157 : decode cX1_score 157 = .ok (.iload_n 2, 1) := by decide +kernel
theorem dX1_score_158 : decode cX1_score 158 = .ok (.invokestatic 136, 3) := by decide +kernel
theorem dX1_score_161 : decode cX1_score 161 = .ok (.iastore, 1) := by decide +kernel
theorem dX1_score_162 : decode cX1_score 162 = .ok (.iinc 3 1, 3) := by decide +kernel
theorem dX1_score_165 : decode cX1_score 165 = .ok (.goto (-151), 3) := by decide +kernel
theorem dX1_score_168 : decode cX1_score 168 = .ok (.iconst 0, 1) := by decide +kernel
theorem dX1_score_169 : decode cX1_score 169 = .ok (.istore_n 3, 1) := by decide +kernel
theorem dX1_score_170 : decode cX1_score 170 = .ok (.iload_n 3, 1) := by decide +kernel
theorem dX1_score_171 : decode cX1_score 171 = .ok (.aload_n 1, 1) := by decide +kernel
theorem dX1_score_172 : decode cX1_score 172 = .ok (.invokevirtual 139, 3) := by decide +kernel
theorem dX1_score_175 : decode cX1_score 175 = .ok (.if_icmp .ge 68, 3) := by decide +kernel
theorem dX1_score_178 : decode cX1_score 178 = .ok (.iload_n 3, 1) := by decide +kernel
theorem dX1_score_179 : decode cX1_score 179 = .ok (.bipush 40, 2) := by decide +kernel
theorem dX1_score_181 : decode cX1_score 181 = .ok (.if_icmp .ge 62, 3) := by decide +kernel
theorem dX1_score_184 : decode cX1_score 184 = .ok (.aload_n 0, 1) := by decide +kernel
theorem dX1_score_185 : decode cX1_score 185 = .ok (.getfield 36, 3) := by decide +kernel
theorem dX1_score_188 : decode cX1_score 188 = .ok (.iload_n 3, 1) := by decide +kernel
theorem dX1_score_189 : decode cX1_score 189 = .ok (.dup2, 1) := by decide +kernel
theorem dX1_score_190 : decode cX1_score 190 = .ok (.iaload, 1) := by decide +kernel
theorem dX1_score_191 : decode cX1_score 191 = .ok (.aload_n 0, 1) := by decide +kernel
theorem dX1_score_192 : decode cX1_score 192 = .ok (.getfield 33, 3) := by decide +kernel
theorem dX1_score_195 : decode cX1_score 195 = .ok (.iload_n 3, 1) := by decide +kernel
theorem dX1_score_196 : decode cX1_score 196 = .ok (.iaload, 1) := by decide +kernel
theorem dX1_score_197 : decode cX1_score 197 = .ok (.aload_n 1, 1) := by decide +kernel
theorem dX1_score_198 : decode cX1_score 198 = .ok (.iload_n 3, 1) := by decide +kernel
theorem dX1_score_199 : decode cX1_score 199 = .ok (.invokevirtual 142, 3) := by decide +kernel
theorem dX1_score_202 : decode cX1_score 202 = .ok (.invokestatic 145, 3) := by decide +kernel
theorem dX1_score_205 : decode cX1_score 205 = .ok (.iadd, 1) := by decide +kernel
theorem dX1_score_206 : decode cX1_score 206 = .ok (.iastore, 1) := by decide +kernel
theorem dX1_score_207 : decode cX1_score 207 = .ok (.aload_n 0, 1) := by decide +kernel
theorem dX1_score_208 : decode cX1_score 208 = .ok (.dup, 1) := by decide +kernel
theorem dX1_score_209 : decode cX1_score 209 = .ok (.getfield 42, 3) := by decide +kernel
theorem dX1_score_212 : decode cX1_score 212 = .ok (.aload_n 0, 1) := by decide +kernel
theorem dX1_score_213 : decode cX1_score 213 = .ok (.getfield 33, 3) := by decide +kernel
theorem dX1_score_216 : decode cX1_score 216 = .ok (.iload_n 3, 1) := by decide +kernel
theorem dX1_score_217 : decode cX1_score 217 = .ok (.iaload, 1) := by decide +kernel
theorem dX1_score_218 : decode cX1_score 218 = .ok (.iadd, 1) := by decide +kernel
theorem dX1_score_219 : decode cX1_score 219 = .ok (.putfield 42, 3) := by decide +kernel
theorem dX1_score_222 : decode cX1_score 222 = .ok (.aload_n 0, 1) := by decide +kernel
theorem dX1_score_223 : decode cX1_score 223 = .ok (.dup, 1) := by decide +kernel
theorem dX1_score_224 : decode cX1_score 224 = .ok (.getfield 46, 3) := by decide +kernel
theorem dX1_score_227 : decode cX1_score 227 = .ok (.aload_n 0, 1) := by decide +kernel
theorem dX1_score_228 : decode cX1_score 228 = .ok (.getfield 36, 3) := by decide +kernel
theorem dX1_score_231 : decode cX1_score 231 = .ok (.iload_n 3, 1) := by decide +kernel
theorem dX1_score_232 : decode cX1_score 232 = .ok (.iaload, 1) := by decide +kernel
theorem dX1_score_233 : decode cX1_score 233 = .ok (.iadd, 1) := by decide +kernel
theorem dX1_score_234 : decode cX1_score 234 = .ok (.putfield 46, 3) := by decide +kernel
theorem dX1_score_237 : decode cX1_score 237 = .ok (.iinc 3 1, 3) := by decide +kernel
theorem dX1_score_240 : decode cX1_score 240 = .ok (.goto (-70), 3) := by decide +kernel
theorem dX1_score_243 : decode cX1_score 243 = .ok (.return_, 1) := by decide +kernel
theorem dX1_beginPhrase_0 : decode cX1_beginPhrase 0 = .ok (.iload_n 1, 1) := by decide +kernel
theorem dX1_beginPhrase_1 : decode cX1_beginPhrase 1 = .ok (.iconst 0, 1) := by decide +kernel
theorem dX1_beginPhrase_2 : decode cX1_beginPhrase 2 = .ok (.bipush 39, 2) := by decide +kernel
theorem dX1_beginPhrase_4 : decode cX1_beginPhrase 4 = .ok (.invokestatic 83, 3) := by decide +kernel
theorem dX1_beginPhrase_7 : decode cX1_beginPhrase 7 = .ok (.ifCond .eq 24, 3) := by decide +kernel
theorem dX1_beginPhrase_10 : decode cX1_beginPhrase 10 = .ok (.aload_n 0, 1) := by decide +kernel
theorem dX1_beginPhrase_11 : decode cX1_beginPhrase 11 = .ok (.getfield 33, 3) := by decide +kernel
theorem dX1_beginPhrase_14 : decode cX1_beginPhrase 14 = .ok (.iload_n 1, 1) := by decide +kernel
theorem dX1_beginPhrase_15 : decode cX1_beginPhrase 15 = .ok (.iconst 0, 1) := by decide +kernel
theorem dX1_beginPhrase_16 : decode cX1_beginPhrase 16 = .ok (.iastore, 1) := by decide +kernel
theorem dX1_beginPhrase_17 : decode cX1_beginPhrase 17 = .ok (.aload_n 0, 1) := by decide +kernel
theorem dX1_beginPhrase_18 : decode cX1_beginPhrase 18 = .ok (.getfield 36, 3) := by decide +kernel
theorem dX1_beginPhrase_21 : decode cX1_beginPhrase 21 = .ok (.iload_n 1, 1) := by decide +kernel
theorem dX1_beginPhrase_22 : decode cX1_beginPhrase 22 = .ok (.iconst 0, 1) := by decide +kernel
theorem dX1_beginPhrase_23 : decode cX1_beginPhrase 23 = .ok (.iastore, 1) := by decide +kernel
theorem dX1_beginPhrase_24 : decode cX1_beginPhrase 24 = .ok (.aload_n 0, 1) := by decide +kernel
theorem dX1_beginPhrase_25 : decode cX1_beginPhrase 25 = .ok (.getfield 39, 3) := by decide +kernel
theorem dX1_beginPhrase_28 : decode cX1_beginPhrase 28 = .ok (.iload_n 1, 1) := by decide +kernel
theorem dX1_beginPhrase_29 : decode cX1_beginPhrase 29 = .ok (.iconst 0, 1) := by decide +kernel
theorem dX1_beginPhrase_30 : decode cX1_beginPhrase 30 = .ok (.iastore, 1) := by decide +kernel
theorem dX1_beginPhrase_31 : decode cX1_beginPhrase 31 = .ok (.return_, 1) := by decide +kernel
theorem dX1_scoreOf_0 : decode cX1_scoreOf 0 = .ok (.iload_n 2, 1) := by decide +kernel
theorem dX1_scoreOf_1 : decode cX1_scoreOf 1 = .ok (.iconst 0, 1) := by decide +kernel
theorem dX1_scoreOf_2 : decode cX1_scoreOf 2 = .ok (.bipush 39, 2) := by decide +kernel
theorem dX1_scoreOf_4 : decode cX1_scoreOf 4 = .ok (.invokestatic 83, 3) := by decide +kernel
theorem dX1_scoreOf_7 : decode cX1_scoreOf 7 = .ok (.ifCond .eq 12, 3) := by decide +kernel
theorem dX1_scoreOf_10 : decode cX1_scoreOf 10 = .ok (.aload_n 0, 1) := by decide +kernel
theorem dX1_scoreOf_11 : decode cX1_scoreOf 11 = .ok (.getfield 24, 3) := by decide +kernel
theorem dX1_scoreOf_14 : decode cX1_scoreOf 14 = .ok (.iload_n 2, 1) := by decide +kernel
theorem dX1_scoreOf_15 : decode cX1_scoreOf 15 = .ok (.iaload, 1) := by decide +kernel
theorem dX1_scoreOf_16 : decode cX1_scoreOf 16 = .ok (.ifCond .eq 5, 3) := by decide +kernel
theorem dX1_scoreOf_19 : decode cX1_scoreOf 19 = .ok (.iconst 0, 1) := by decide +kernel
theorem dX1_scoreOf_20 : decode cX1_scoreOf 20 = .ok (.ireturn, 1) := by decide +kernel
theorem dX1_scoreOf_21 : decode cX1_scoreOf 21 = .ok (.aload_n 0, 1) := by decide +kernel
theorem dX1_scoreOf_22 : decode cX1_scoreOf 22 = .ok (.getfield 21, 3) := by decide +kernel
theorem dX1_scoreOf_25 : decode cX1_scoreOf 25 = .ok (.iload_n 2, 1) := by decide +kernel
theorem dX1_scoreOf_26 : decode cX1_scoreOf 26 = .ok (.iaload, 1) := by decide +kernel
theorem dX1_scoreOf_27 : decode cX1_scoreOf 27 = .ok (.aload_n 1, 1) := by decide +kernel
theorem dX1_scoreOf_28 : decode cX1_scoreOf 28 = .ok (.iload_n 2, 1) := by decide +kernel
theorem dX1_scoreOf_29 : decode cX1_scoreOf 29 = .ok (.invokevirtual 80, 3) := by decide +kernel
theorem dX1_scoreOf_32 : decode cX1_scoreOf 32 = .ok (.isub, 1) := by decide +kernel
theorem dX1_scoreOf_33 : decode cX1_scoreOf 33 = .ok (.invokestatic 148, 3) := by decide +kernel
theorem dX1_scoreOf_36 : decode cX1_scoreOf 36 = .ok (.istore_n 3, 1) := by decide +kernel
theorem dX1_scoreOf_37 : decode cX1_scoreOf 37 = .ok (.aload_n 0, 1) := by decide +kernel
theorem dX1_scoreOf_38 : decode cX1_scoreOf 38 = .ok (.getfield 15, 3) := by decide +kernel
theorem dX1_scoreOf_41 : decode cX1_scoreOf 41 = .ok (.iload_n 2, 1) := by decide +kernel
theorem dX1_scoreOf_42 : decode cX1_scoreOf 42 = .ok (.iaload, 1) := by decide +kernel
theorem dX1_scoreOf_43 : decode cX1_scoreOf 43 = .ok (.iconst 5, 1) := by decide +kernel
theorem dX1_scoreOf_44 : decode cX1_scoreOf 44 = .ok (.aload_n 0, 1) := by decide +kernel
theorem dX1_scoreOf_45 : decode cX1_scoreOf 45 = .ok (.getfield 18, 3) := by decide +kernel
theorem dX1_scoreOf_48 : decode cX1_scoreOf 48 = .ok (.iload_n 2, 1) := by decide +kernel
theorem dX1_scoreOf_49 : decode cX1_scoreOf 49 = .ok (.iaload, 1) := by decide +kernel
theorem dX1_scoreOf_50 : decode cX1_scoreOf 50 = .ok (.imul, 1) := by decide +kernel
theorem dX1_scoreOf_51 : decode cX1_scoreOf 51 = .ok (.iadd, 1) := by decide +kernel
theorem dX1_scoreOf_52 : decode cX1_scoreOf 52 = .ok (.iconst 2, 1) := by decide +kernel
theorem dX1_scoreOf_53 : decode cX1_scoreOf 53 = .ok (.iload_n 3, 1) := by decide +kernel
theorem dX1_scoreOf_54 : decode cX1_scoreOf 54 = .ok (.imul, 1) := by decide +kernel
theorem dX1_scoreOf_55 : decode cX1_scoreOf 55 = .ok (.isub, 1) := by decide +kernel
theorem dX1_scoreOf_56 : decode cX1_scoreOf 56 = .ok (.istore 4, 2) := by decide +kernel
theorem dX1_scoreOf_58 : decode cX1_scoreOf 58 = .ok (.iconst 0, 1) := by decide +kernel
theorem dX1_scoreOf_59 : decode cX1_scoreOf 59 = .ok (.iload 4, 2) := by decide +kernel
theorem dX1_scoreOf_61 : decode cX1_scoreOf 61 = .ok (.invokestatic 136, 3) := by decide +kernel
theorem dX1_scoreOf_64 : decode cX1_scoreOf 64 = .ok (.bipush 10, 2) := by decide +kernel
theorem dX1_scoreOf_66 : decode cX1_scoreOf 66 = .ok (.aload_n 0, 1) := by decide +kernel
theorem dX1_scoreOf_67 : decode cX1_scoreOf 67 = .ok (.getfield 27, 3) := by decide +kernel
theorem dX1_scoreOf_70 : decode cX1_scoreOf 70 = .ok (.iload_n 2, 1) := by decide +kernel
theorem dX1_scoreOf_71 : decode cX1_scoreOf 71 = .ok (.iaload, 1) := by decide +kernel
theorem dX1_scoreOf_72 : decode cX1_scoreOf 72 = .ok (.iadd, 1) := by decide +kernel
theorem dX1_scoreOf_73 : decode cX1_scoreOf 73 = .ok (.imul, 1) := by decide +kernel
theorem dX1_scoreOf_74 : decode cX1_scoreOf 74 = .ok (.bipush 10, 2) := by decide +kernel
theorem dX1_scoreOf_76 : decode cX1_scoreOf 76 = .ok (.idiv, 1) := by decide +kernel
theorem dX1_scoreOf_77 : decode cX1_scoreOf 77 = .ok (.ireturn, 1) := by decide +kernel
theorem dX1_extraOf_0 : decode cX1_extraOf 0 = .ok (.iload_n 1, 1) := by decide +kernel
theorem dX1_extraOf_1 : decode cX1_extraOf 1 = .ok (.iconst 2, 1) := by decide +kernel
theorem dX1_extraOf_2 : decode cX1_extraOf 2 = .ok (.if_icmp .lt 13, 3) := by decide +kernel
theorem dX1_extraOf_5 : decode cX1_extraOf 5 = .ok (.iload_n 0, 1) := by decide +kernel
theorem dX1_extraOf_6 : decode cX1_extraOf 6 = .ok (.iload_n 1, 1) := by decide +kernel
theorem dX1_extraOf_7 : decode cX1_extraOf 7 = .ok (.if_icmp .ne 8, 3) := by decide +kernel
theorem dX1_extraOf_10 : decode cX1_extraOf 10 = .ok (.bipush 50, 2) := by decide +kernel
theorem dX1_extraOf_12 : decode cX1_extraOf 12 = .ok (.goto 4, 3) := by decide +kernel
theorem dX1_extraOf_15 : decode cX1_extraOf 15 = .ok (.iconst 0, 1) := by decide +kernel
theorem dX1_extraOf_16 : decode cX1_extraOf 16 = .ok (.ireturn, 1) := by decide +kernel
theorem dX1_valueIn_0 : decode cX1_valueIn 0 = .ok (.iload_n 1, 1) := by decide +kernel
theorem dX1_valueIn_1 : decode cX1_valueIn 1 = .ok (.ifCond .lt 15, 3) := by decide +kernel
theorem dX1_valueIn_4 : decode cX1_valueIn 4 = .ok (.iload_n 1, 1) := by decide +kernel
theorem dX1_valueIn_5 : decode cX1_valueIn 5 = .ok (.aload_n 0, 1) := by decide +kernel
theorem dX1_valueIn_6 : decode cX1_valueIn 6 = .ok (.arraylength, 1) := by decide +kernel
theorem dX1_valueIn_7 : decode cX1_valueIn 7 = .ok (.if_icmp .ge 9, 3) := by decide +kernel
theorem dX1_valueIn_10 : decode cX1_valueIn 10 = .ok (.aload_n 0, 1) := by decide +kernel
theorem dX1_valueIn_11 : decode cX1_valueIn 11 = .ok (.iload_n 1, 1) := by decide +kernel
theorem dX1_valueIn_12 : decode cX1_valueIn 12 = .ok (.iaload, 1) := by decide +kernel
theorem dX1_valueIn_13 : decode cX1_valueIn 13 = .ok (.goto 4, 3) := by decide +kernel
theorem dX1_valueIn_16 : decode cX1_valueIn 16 = .ok (.iconst 0, 1) := by decide +kernel
theorem dX1_valueIn_17 : decode cX1_valueIn 17 = .ok (.ireturn, 1) := by decide +kernel
theorem dX1_matchesOf_0 : decode cX1_matchesOf 0 = .ok (.aload_n 0, 1) := by decide +kernel
theorem dX1_matchesOf_1 : decode cX1_matchesOf 1 = .ok (.getfield 9, 3) := by decide +kernel
theorem dX1_matchesOf_4 : decode cX1_matchesOf 4 = .ok (.iload_n 1, 1) := by decide +kernel
theorem dX1_matchesOf_5 : decode cX1_matchesOf 5 = .ok (.invokestatic 151, 3) := by decide +kernel
theorem dX1_matchesOf_8 : decode cX1_matchesOf 8 = .ok (.ireturn, 1) := by decide +kernel
theorem dX1_shareOf_0 : decode cX1_shareOf 0 = .ok (.aload_n 0, 1) := by decide +kernel
theorem dX1_shareOf_1 : decode cX1_shareOf 1 = .ok (.getfield 15, 3) := by decide +kernel
theorem dX1_shareOf_4 : decode cX1_shareOf 4 = .ok (.iload_n 1, 1) := by decide +kernel
theorem dX1_shareOf_5 : decode cX1_shareOf 5 = .ok (.invokestatic 151, 3) := by decide +kernel
theorem dX1_shareOf_8 : decode cX1_shareOf 8 = .ok (.ireturn, 1) := by decide +kernel
theorem dX1_onsetOf_0 : decode cX1_onsetOf 0 = .ok (.aload_n 0, 1) := by decide +kernel
theorem dX1_onsetOf_1 : decode cX1_onsetOf 1 = .ok (.getfield 21, 3) := by decide +kernel
theorem dX1_onsetOf_4 : decode cX1_onsetOf 4 = .ok (.iload_n 1, 1) := by decide +kernel
theorem dX1_onsetOf_5 : decode cX1_onsetOf 5 = .ok (.invokestatic 151, 3) := by decide +kernel
theorem dX1_onsetOf_8 : decode cX1_onsetOf 8 = .ok (.ireturn, 1) := by decide +kernel
theorem dX1_reasonOf_0 : decode cX1_reasonOf 0 = .ok (.aload_n 0, 1) := by decide +kernel
theorem dX1_reasonOf_1 : decode cX1_reasonOf 1 = .ok (.getfield 24, 3) := by decide +kernel
theorem dX1_reasonOf_4 : decode cX1_reasonOf 4 = .ok (.iload_n 1, 1) := by decide +kernel
theorem dX1_reasonOf_5 : decode cX1_reasonOf 5 = .ok (.invokestatic 151, 3) := by decide +kernel
theorem dX1_reasonOf_8 : decode cX1_reasonOf 8 = .ok (.ireturn, 1) := by decide +kernel
theorem dX1_pointsOf_0 : decode cX1_pointsOf 0 = .ok (.aload_n 0, 1) := by decide +kernel
theorem dX1_pointsOf_1 : decode cX1_pointsOf 1 = .ok (.getfield 30, 3) := by decide +kernel
theorem dX1_pointsOf_4 : decode cX1_pointsOf 4 = .ok (.iload_n 1, 1) := by decide +kernel
theorem dX1_pointsOf_5 : decode cX1_pointsOf 5 = .ok (.invokestatic 151, 3) := by decide +kernel
theorem dX1_pointsOf_8 : decode cX1_pointsOf 8 = .ok (.ireturn, 1) := by decide +kernel
theorem dX1_rowAheadOf_0 : decode cX1_rowAheadOf 0 = .ok (.aload_n 0, 1) := by decide +kernel
theorem dX1_rowAheadOf_1 : decode cX1_rowAheadOf 1 = .ok (.getfield 27, 3) := by decide +kernel
theorem dX1_rowAheadOf_4 : decode cX1_rowAheadOf 4 = .ok (.iload_n 1, 1) := by decide +kernel
theorem dX1_rowAheadOf_5 : decode cX1_rowAheadOf 5 = .ok (.invokestatic 151, 3) := by decide +kernel
theorem dX1_rowAheadOf_8 : decode cX1_rowAheadOf 8 = .ok (.ireturn, 1) := by decide +kernel
theorem dX1_phraseHitsOf_0 : decode cX1_phraseHitsOf 0 = .ok (.aload_n 0, 1) := by decide +kernel
theorem dX1_phraseHitsOf_1 : decode cX1_phraseHitsOf 1 = .ok (.getfield 33, 3) := by decide +kernel
theorem dX1_phraseHitsOf_4 : decode cX1_phraseHitsOf 4 = .ok (.iload_n 1, 1) := by decide +kernel
theorem dX1_phraseHitsOf_5 : decode cX1_phraseHitsOf 5 = .ok (.invokestatic 151, 3) := by decide +kernel
theorem dX1_phraseHitsOf_8 : decode cX1_phraseHitsOf 8 = .ok (.ireturn, 1) := by decide +kernel
theorem dX1_phrasePointsOf_0 : decode cX1_phrasePointsOf 0 = .ok (.aload_n 0, 1) := by decide +kernel
theorem dX1_phrasePointsOf_1 : decode cX1_phrasePointsOf 1 = .ok (.getfield 36, 3) := by decide +kernel
theorem dX1_phrasePointsOf_4 : decode cX1_phrasePointsOf 4 = .ok (.iload_n 1, 1) := by decide +kernel
theorem dX1_phrasePointsOf_5 : decode cX1_phrasePointsOf 5 = .ok (.invokestatic 151, 3) := by decide +kernel
theorem dX1_phrasePointsOf_8 : decode cX1_phrasePointsOf 8 = .ok (.ireturn, 1) := by decide +kernel
theorem dX1_longestRowOf_0 : decode cX1_longestRowOf 0 = .ok (.aload_n 0, 1) := by decide +kernel
theorem dX1_longestRowOf_1 : decode cX1_longestRowOf 1 = .ok (.getfield 39, 3) := by decide +kernel
theorem dX1_longestRowOf_4 : decode cX1_longestRowOf 4 = .ok (.iload_n 1, 1) := by decide +kernel
theorem dX1_longestRowOf_5 : decode cX1_longestRowOf 5 = .ok (.invokestatic 151, 3) := by decide +kernel
theorem dX1_longestRowOf_8 : decode cX1_longestRowOf 8 = .ok (.ireturn, 1) := by decide +kernel
theorem dX2_init_0 : decode cX2_init 0 = .ok (.aload_n 0, 1) := by decide +kernel
theorem dX2_init_1 : decode cX2_init 1 = .ok (.invokespecial 3, 3) := by decide +kernel
theorem dX2_init_4 : decode cX2_init 4 = .ok (.aload_n 0, 1) := by decide +kernel
theorem dX2_init_5 : decode cX2_init 5 = .ok (.iconst 0, 1) := by decide +kernel
theorem dX2_init_6 : decode cX2_init 6 = .ok (.putfield 9, 3) := by decide +kernel
theorem dX2_init_9 : decode cX2_init 9 = .ok (.aload_n 0, 1) := by decide +kernel
theorem dX2_init_10 : decode cX2_init 10 = .ok (.iconst 0, 1) := by decide +kernel
theorem dX2_init_11 : decode cX2_init 11 = .ok (.putfield 15, 3) := by decide +kernel
theorem dX2_init_14 : decode cX2_init 14 = .ok (.aload_n 0, 1) := by decide +kernel
theorem dX2_init_15 : decode cX2_init 15 = .ok (.iconst 0, 1) := by decide +kernel
theorem dX2_init_16 : decode cX2_init 16 = .ok (.putfield 19, 3) := by decide +kernel
theorem dX2_init_19 : decode cX2_init 19 = .ok (.return_, 1) := by decide +kernel
theorem dX2_readInto_0 : decode cX2_readInto 0 = .ok (.aload_n 1, 1) := by decide +kernel
theorem dX2_readInto_1 : decode cX2_readInto 1 = .ok (.invokevirtual 22, 3) := by decide +kernel
theorem dX2_readInto_4 : decode cX2_readInto 4 = .ok (.aload_n 0, 1) := by decide +kernel
theorem dX2_readInto_5 : decode cX2_readInto 5 = .ok (.iconst 0, 1) := by decide +kernel
theorem dX2_readInto_6 : decode cX2_readInto 6 = .ok (.putfield 9, 3) := by decide +kernel
theorem dX2_readInto_9 : decode cX2_readInto 9 = .ok (.aload_n 0, 1) := by decide +kernel
theorem dX2_readInto_10 : decode cX2_readInto 10 = .ok (.iconst 0, 1) := by decide +kernel
theorem dX2_readInto_11 : decode cX2_readInto 11 = .ok (.putfield 19, 3) := by decide +kernel
theorem dX2_readInto_14 : decode cX2_readInto 14 = .ok (.aload_n 0, 1) := by decide +kernel
theorem dX2_readInto_15 : decode cX2_readInto 15 = .ok (.aload_n 0, 1) := by decide +kernel
theorem dX2_readInto_16 : decode cX2_readInto 16 = .ok (.aload_n 1, 1) := by decide +kernel
theorem dX2_readInto_17 : decode cX2_readInto 17 = .ok (.aload_n 2, 1) := by decide +kernel
theorem dX2_readInto_18 : decode cX2_readInto 18 = .ok (.iconst 1, 1) := by decide +kernel
theorem dX2_readInto_19 : decode cX2_readInto 19 = .ok (.invokevirtual 27, 3) := by decide +kernel
theorem dX2_readInto_22 : decode cX2_readInto 22 = .ok (.ifCond .ne 7, 3) := by decide +kernel
theorem dX2_readInto_25 : decode cX2_readInto 25 = .ok (.iconst 1, 1) := by decide +kernel
theorem dX2_readInto_26 : decode cX2_readInto 26 = .ok (.goto 4, 3) := by decide +kernel
theorem dX2_readInto_29 : decode cX2_readInto 29 = .ok (.iconst 0, 1) := by decide +kernel
theorem dX2_readInto_30 : decode cX2_readInto 30 = .ok (.putfield 15, 3) := by decide +kernel
theorem dX2_readInto_33 : decode cX2_readInto 33 = .ok (.iconst 1, 1) := by decide +kernel
theorem dX2_readInto_34 : decode cX2_readInto 34 = .ok (.istore_n 3, 1) := by decide +kernel
theorem dX2_readInto_35 : decode cX2_readInto 35 = .ok (.iload_n 3, 1) := by decide +kernel
theorem dX2_readInto_36 : decode cX2_readInto 36 = .ok (.bipush 60, 2) := by decide +kernel
theorem dX2_readInto_38 : decode cX2_readInto 38 = .ok (.if_icmp .ge 79, 3) := by decide +kernel
theorem dX2_readInto_41 : decode cX2_readInto 41 = .ok (.aload_n 0, 1) := by decide +kernel
theorem dX2_readInto_42 : decode cX2_readInto 42 = .ok (.getfield 15, 3) := by decide +kernel
theorem dX2_readInto_45 : decode cX2_readInto 45 = .ok (.ifCond .ne 72, 3) := by decide +kernel
theorem dX2_readInto_48 : decode cX2_readInto 48 = .ok (.aload_n 0, 1) := by decide +kernel
theorem dX2_readInto_49 : decode cX2_readInto 49 = .ok (.getfield 9, 3) := by decide +kernel
theorem dX2_readInto_52 : decode cX2_readInto 52 = .ok (.aload_n 2, 1) := by decide +kernel
theorem dX2_readInto_53 : decode cX2_readInto 53 = .ok (.invokevirtual 31, 3) := by decide +kernel
theorem dX2_readInto_56 : decode cX2_readInto 56 = .ok (.if_icmp .ge 61, 3) := by decide +kernel
theorem dX2_readInto_59 : decode cX2_readInto 59 = .ok (.aload_n 2, 1) := by decide +kernel
theorem dX2_readInto_60 : decode cX2_readInto 60 = .ok (.aload_n 0, 1) := by decide +kernel
theorem dX2_readInto_61 : decode cX2_readInto 61 = .ok (.getfield 9, 3) := by decide +kernel
theorem dX2_readInto_64 : decode cX2_readInto 64 = .ok (.bipush 47, 2) := by decide +kernel
theorem dX2_readInto_66 : decode cX2_readInto 66 = .ok (.invokevirtual 37, 3) := by decide +kernel
theorem dX2_readInto_69 : decode cX2_readInto 69 = .ok (.istore 4, 2) := by decide +kernel
theorem dX2_readInto_71 : decode cX2_readInto 71 = .ok (.aload_n 0, 1) := by decide +kernel
theorem dX2_readInto_72 : decode cX2_readInto 72 = .ok (.aload_n 0, 1) := by decide +kernel
theorem dX2_readInto_73 : decode cX2_readInto 73 = .ok (.aload_n 2, 1) := by decide +kernel
theorem dX2_readInto_74 : decode cX2_readInto 74 = .ok (.iload 4, 2) := by decide +kernel
theorem dX2_readInto_76 : decode cX2_readInto 76 = .ok (.ifCond .eq 8, 3) := by decide +kernel
theorem dX2_readInto_79 : decode cX2_readInto 79 = .ok (.bipush 47, 2) := by decide +kernel
theorem dX2_readInto_81 : decode cX2_readInto 81 = .ok (.goto 5, 3) := by decide +kernel
theorem dX2_readInto_84 : decode cX2_readInto 84 = .ok (.bipush 44, 2) := by decide +kernel
theorem dX2_readInto_86 : decode cX2_readInto 86 = .ok (.invokevirtual 41, 3) := by decide +kernel
theorem dX2_readInto_89 : decode cX2_readInto 89 = .ok (.ifCond .eq 14, 3) := by decide +kernel
theorem dX2_readInto_92 : decode cX2_readInto 92 = .ok (.aload_n 0, 1) := by decide +kernel
theorem dX2_readInto_93 : decode cX2_readInto 93 = .ok (.aload_n 1, 1) := by decide +kernel
theorem dX2_readInto_94 : decode cX2_readInto 94 = .ok (.aload_n 2, 1) := by decide +kernel
theorem dX2_readInto_95 : decode cX2_readInto 95 = .ok (.iload 4, 2) := by decide +kernel
theorem dX2_readInto_97 : decode cX2_readInto 97 = .ok (.invokevirtual 27, 3) := by decide +kernel
theorem dX2_readInto_100 : decode cX2_readInto 100 = .ok (.ifCond .ne 7, 3) := by decide +kernel
theorem dX2_readInto_103 : decode cX2_readInto 103 = .ok (.iconst 1, 1) := by decide +kernel
theorem dX2_readInto_104 : decode cX2_readInto 104 = .ok (.goto 4, 3) := by decide +kernel
theorem dX2_readInto_107 : decode cX2_readInto 107 = .ok (.iconst 0, 1) := by decide +kernel
theorem dX2_readInto_108 : decode cX2_readInto 108 = .ok (.putfield 15, 3) := by decide +kernel
theorem dX2_readInto_111 : decode cX2_readInto 111 = .ok (.iinc 3 1, 3) := by decide +kernel
theorem dX2_readInto_114 : decode cX2_readInto 114 = .ok (.goto (-79), 3) := by decide +kernel
theorem dX2_readInto_117 : decode cX2_readInto 117 = .ok (.return_, 1) := by decide +kernel
theorem dX2_readSyllable_0 : decode cX2_readSyllable 0 = .ok (.aload_n 0, 1) := by decide +kernel
theorem dX2_readSyllable_1 : decode cX2_readSyllable 1 = .ok (.aload_n 2, 1) := by decide +kernel
theorem dX2_readSyllable_2 : decode cX2_readSyllable 2 = .ok (.bipush 46, 2) := by decide +kernel
theorem dX2_readSyllable_4 : decode cX2_readSyllable 4 = .ok (.invokevirtual 41, 3) := by decide +kernel
theorem dX2_readSyllable_7 : decode cX2_readSyllable 7 = .ok (.ifCond .eq 14, 3) := by decide +kernel
theorem dX2_readSyllable_10 : decode cX2_readSyllable 10 = .ok (.aload_n 0, 1) := by decide +kernel
theorem dX2_readSyllable_11 : decode cX2_readSyllable 11 = .ok (.aload_n 2, 1) := by decide +kernel
theorem dX2_readSyllable_12 : decode cX2_readSyllable 12 = .ok (.iconst 1, 1) := by decide +kernel
theorem dX2_readSyllable_13 : decode cX2_readSyllable 13 = .ok (.bipush 32, 2) := by decide +kernel
theorem dX2_readSyllable_15 : decode cX2_readSyllable 15 = .ok (.invokevirtual 45, 3) := by decide +kernel
theorem dX2_readSyllable_18 : decode cX2_readSyllable 18 = .ok (.goto 4, 3) := by decide +kernel
theorem dX2_readSyllable_21 : decode cX2_readSyllable 21 = .ok (.iconst 0, 1) := by decide +kernel
theorem dX2_readSyllable_22 : decode cX2_readSyllable 22 = .ok (.istore 4, 2) := by decide +kernel
theorem dX2_readSyllable_24 : decode cX2_readSyllable 24 = .ok (.iload 4, 2) := by decide +kernel
theorem dX2_readSyllable_26 : decode cX2_readSyllable 26 = .ok (.iconst (-1), 1) := by decide +kernel
theorem dX2_readSyllable_27 : decode cX2_readSyllable 27 = .ok (.if_icmp .ne 5, 3) := by decide +kernel
theorem dX2_readSyllable_30 : decode cX2_readSyllable 30 = .ok (.iconst 0, 1) := by decide +kernel
theorem dX2_readSyllable_31 : decode cX2_readSyllable 31 = .ok (.ireturn, 1) := by decide +kernel
theorem dX2_readSyllable_32 : decode cX2_readSyllable 32 = .ok (.aload_n 0, 1) := by decide +kernel
theorem dX2_readSyllable_33 : decode cX2_readSyllable 33 = .ok (.aload_n 2, 1) := by decide +kernel
theorem dX2_readSyllable_34 : decode cX2_readSyllable 34 = .ok (.iconst 0, 1) := by decide +kernel
theorem dX2_readSyllable_35 : decode cX2_readSyllable 35 = .ok (.bipush 60, 2) := by decide +kernel
theorem dX2_readSyllable_37 : decode cX2_readSyllable 37 = .ok (.invokevirtual 45, 3) := by decide +kernel
theorem dX2_readSyllable_40 : decode cX2_readSyllable 40 = .ok (.istore 5, 2) := by decide +kernel
theorem dX2_readSyllable_42 : decode cX2_readSyllable 42 = .ok (.iload 5, 2) := by decide +kernel
theorem dX2_readSyllable_44 : decode cX2_readSyllable 44 = .ok (.iconst (-1), 1) := by decide +kernel
theorem dX2_readSyllable_45 : decode cX2_readSyllable 45 = .ok (.if_icmp .ne 5, 3) := by decide +kernel
theorem dX2_readSyllable_48 : decode cX2_readSyllable 48 = .ok (.iconst 0, 1) := by decide +kernel
theorem dX2_readSyllable_49 : decode cX2_readSyllable 49 = .ok (.ireturn, 1) := by decide +kernel
theorem dX2_readSyllable_50 : decode cX2_readSyllable 50 = .ok (.aload_n 0, 1) := by decide +kernel
theorem dX2_readSyllable_51 : decode cX2_readSyllable 51 = .ok (.aload_n 2, 1) := by decide +kernel
theorem dX2_readSyllable_52 : decode cX2_readSyllable 52 = .ok (.bipush 45, 2) := by decide +kernel
theorem dX2_readSyllable_54 : decode cX2_readSyllable 54 = .ok (.invokevirtual 41, 3) := by decide +kernel
theorem dX2_readSyllable_57 : decode cX2_readSyllable 57 = .ok (.ifCond .eq 14, 3) := by decide +kernel
theorem dX2_readSyllable_60 : decode cX2_readSyllable 60 = .ok (.aload_n 0, 1) := by decide +kernel
theorem dX2_readSyllable_61 : decode cX2_readSyllable 61 = .ok (.aload_n 2, 1) := by decide +kernel
theorem dX2_readSyllable_62 : decode cX2_readSyllable 62 = .ok (.iconst 0, 1) := by decide +kernel
theorem dX2_readSyllable_63 : decode cX2_readSyllable 63 = .ok (.bipush 60, 2) := by decide +kernel
theorem dX2_readSyllable_65 : decode cX2_readSyllable 65 = .ok (.invokevirtual 45, 3) := by decide +kernel
theorem dX2_readSyllable_68 : decode cX2_readSyllable 68 = .ok (.goto 5, 3) := by decide +kernel
theorem dX2_readSyllable_71 : decode cX2_readSyllable 71 = .ok (.iload 5, 2) := by decide +kernel
theorem dX2_readSyllable_73 : decode cX2_readSyllable 73 = .ok (.istore 6, 2) := by decide +kernel
theorem dX2_readSyllable_75 : decode cX2_readSyllable 75 = .ok (.iload 6, 2) := by decide +kernel
theorem dX2_readSyllable_77 : decode cX2_readSyllable 77 = .ok (.iconst (-1), 1) := by decide +kernel
theorem dX2_readSyllable_78 : decode cX2_readSyllable 78 = .ok (.if_icmp .eq 13, 3) := by decide +kernel
theorem dX2_readSyllable_81 : decode cX2_readSyllable 81 = .ok (.aload_n 0, 1) := by decide +kernel
theorem dX2_readSyllable_82 : decode cX2_readSyllable 82 = .ok (.aload_n 2, 1) := by decide +kernel
theorem dX2_readSyllable_83 : decode cX2_readSyllable 83 = .ok (.bipush 58, 2) := by decide +kernel
theorem dX2_readSyllable_85 : decode cX2_readSyllable 85 = .ok (.invokevirtual 41, 3) := by decide +kernel
theorem dX2_readSyllable_88 : decode cX2_readSyllable 88 = .ok (.ifCond .ne 5, 3) := by decide +kernel
theorem dX2_readSyllable_91 : decode cX2_readSyllable 91 = .ok (.iconst 0, 1) := by decide +kernel
theorem dX2_readSyllable_92 : decode cX2_readSyllable 92 = .ok (.ireturn, 1) := by decide +kernel
theorem dX2_readSyllable_93 : decode cX2_readSyllable 93 = .ok (.aload_n 0, 1) := by decide +kernel
theorem dX2_readSyllable_94 : decode cX2_readSyllable 94 = .ok (.aload_n 2, 1) := by decide +kernel
theorem dX2_readSyllable_95 : decode cX2_readSyllable 95 = .ok (.iconst 1, 1) := by decide +kernel
theorem dX2_readSyllable_96 : decode cX2_readSyllable 96 = .ok (.bipush 32, 2) := by decide +kernel
theorem dX2_readSyllable_98 : decode cX2_readSyllable 98 = .ok (.invokevirtual 45, 3) := by decide +kernel
theorem dX2_readSyllable_101 : decode cX2_readSyllable 101 = .ok (.istore 7, 2) := by decide +kernel
theorem dX2_readSyllable_103 : decode cX2_readSyllable 103 = .ok (.iload 7, 2) := by decide +kernel
theorem dX2_readSyllable_105 : decode cX2_readSyllable 105 = .ok (.iconst (-1), 1) := by decide +kernel
theorem dX2_readSyllable_106 : decode cX2_readSyllable 106 = .ok (.if_icmp .ne 5, 3) := by decide +kernel
theorem dX2_readSyllable_109 : decode cX2_readSyllable 109 = .ok (.iconst 0, 1) := by decide +kernel
theorem dX2_readSyllable_110 : decode cX2_readSyllable 110 = .ok (.ireturn, 1) := by decide +kernel
theorem dX2_readSyllable_111 : decode cX2_readSyllable 111 = .ok (.aload_n 1, 1) := by decide +kernel
theorem dX2_readSyllable_112 : decode cX2_readSyllable 112 = .ok (.iload 4, 2) := by decide +kernel
theorem dX2_readSyllable_114 : decode cX2_readSyllable 114 = .ok (.iload 7, 2) := by decide +kernel
theorem dX2_readSyllable_116 : decode cX2_readSyllable 116 = .ok (.invokevirtual 49, 3) := by decide +kernel
theorem dX2_readSyllable_119 : decode cX2_readSyllable 119 = .ok (.ifCond .eq 20, 3) := by decide +kernel
theorem dX2_readSyllable_122 : decode cX2_readSyllable 122 = .ok (.aload_n 1, 1) := by decide +kernel
theorem dX2_readSyllable_123 : decode cX2_readSyllable 123 = .ok (.iload 4, 2) := by decide +kernel
theorem dX2_readSyllable_125 : decode cX2_readSyllable 125 = .ok (.iload 5, 2) := by decide +kernel
theorem dX2_readSyllable_127 : decode cX2_readSyllable 127 = .ok (.iload 6, 2) := by decide +kernel
theorem dX2_readSyllable_129 : decode cX2_readSyllable 129 = .ok (.iload 7, 2) := by decide +kernel
theorem dX2_readSyllable_131 : decode cX2_readSyllable 131 = .ok (.iload_n 3, 1) := by decide +kernel
theorem dX2_readSyllable_132 : decode cX2_readSyllable 132 = .ok (.invokevirtual 53, 3) := by decide +kernel
theorem dX2_readSyllable_135 : decode cX2_readSyllable 135 = .ok (.pop, 1) := by decide +kernel
theorem dX2_readSyllable_136 : decode cX2_readSyllable 136 = .ok (.goto 8, 3) := by decide +kernel
theorem dX2_readSyllable_139 : decode cX2_readSyllable 139 = .ok (.aload_n 0, 1) := by decide +kernel
theorem dX2_readSyllable_140 : decode cX2_readSyllable 140 = .ok (.iconst 1, 1) := by decide +kernel
theorem dX2_readSyllable_141 : decode cX2_readSyllable 141 = .ok (.putfield 19, 3) := by decide +kernel
theorem dX2_readSyllable_144 : decode cX2_readSyllable 144 = .ok (.iconst 1, 1) := by decide +kernel
theorem dX2_readSyllable_145 : decode cX2_readSyllable 145 = .ok (.ireturn, 1) := by decide +kernel
theorem dX2_skip_0 : decode cX2_skip 0 = .ok (.aload_n 1, 1) := by decide +kernel
theorem dX2_skip_1 : decode cX2_skip 1 = .ok (.aload_n 0, 1) := by decide +kernel
theorem dX2_skip_2 : decode cX2_skip 2 = .ok (.getfield 9, 3) := by decide +kernel
theorem dX2_skip_5 : decode cX2_skip 5 = .ok (.iload_n 2, 1) := by decide +kernel
theorem dX2_skip_6 : decode cX2_skip 6 = .ok (.invokevirtual 37, 3) := by decide +kernel
theorem dX2_skip_9 : decode cX2_skip 9 = .ok (.ifCond .ne 5, 3) := by decide +kernel
theorem dX2_skip_12 : decode cX2_skip 12 = .ok (.iconst 0, 1) := by decide +kernel
theorem dX2_skip_13 : decode cX2_skip 13 = .ok (.ireturn, 1) := by decide +kernel
theorem dX2_skip_14 : decode cX2_skip 14 = .ok (.aload_n 0, 1) := by decide +kernel
theorem dX2_skip_15 : decode cX2_skip 15 = .ok (.dup, 1) := by decide +kernel
theorem dX2_skip_16 : decode cX2_skip 16 = .ok (.getfield 9, 3) := by decide +kernel
theorem dX2_skip_19 : decode cX2_skip 19 = .ok (.iconst 1, 1) := by decide +kernel
theorem dX2_skip_20 : decode cX2_skip 20 = .ok (.iadd, 1) := by decide +kernel
theorem dX2_skip_21 : decode cX2_skip 21 = .ok (.putfield 9, 3) := by decide +kernel
theorem dX2_skip_24 : decode cX2_skip 24 = .ok (.iconst 1, 1) := by decide +kernel
theorem dX2_skip_25 : decode cX2_skip 25 = .ok (.ireturn, 1) := by decide +kernel
theorem dX2_readNumber_0 : decode cX2_readNumber 0 = .ok (.aload_n 1, 1) := by decide +kernel
theorem dX2_readNumber_1 : decode cX2_readNumber 1 = .ok (.aload_n 0, 1) := by decide +kernel
theorem dX2_readNumber_2 : decode cX2_readNumber 2 = .ok (.getfield 9, 3) := by decide +kernel
theorem dX2_readNumber_5 : decode cX2_readNumber 5 = .ok (.invokevirtual 57, 3) := by decide +kernel
theorem dX2_readNumber_8 : decode cX2_readNumber 8 = .ok (.istore 4, 2) := by decide +kernel
theorem dX2_readNumber_10 : decode cX2_readNumber 10 = .ok (.iload 4, 2) := by decide +kernel
theorem dX2_readNumber_12 : decode cX2_readNumber 12 = .ok (.iload_n 2, 1) := by decide +kernel
theorem dX2_readNumber_13 : decode cX2_readNumber 13 = .ok (.if_icmp .ge 5, 3) := by decide +kernel
theorem dX2_readNumber_16 : decode cX2_readNumber 16 = .ok (.iconst (-1), 1) := by decide +kernel
theorem dX2_readNumber_17 : decode cX2_readNumber 17 = .ok (.ireturn, 1) := by decide +kernel
theorem dX2_readNumber_18 : decode cX2_readNumber 18 = .ok (.aload_n 0, 1) := by decide +kernel
theorem dX2_readNumber_19 : decode cX2_readNumber 19 = .ok (.dup, 1) := by decide +kernel
theorem dX2_readNumber_20 : decode cX2_readNumber 20 = .ok (.getfield 9, 3) := by decide +kernel
theorem dX2_readNumber_23 : decode cX2_readNumber 23 = .ok (.iconst 1, 1) := by decide +kernel
theorem dX2_readNumber_24 : decode cX2_readNumber 24 = .ok (.iadd, 1) := by decide +kernel
theorem dX2_readNumber_25 : decode cX2_readNumber 25 = .ok (.putfield 9, 3) := by decide +kernel
theorem dX2_readNumber_28 : decode cX2_readNumber 28 = .ok (.aload_n 1, 1) := by decide +kernel
theorem dX2_readNumber_29 : decode cX2_readNumber 29 = .ok (.aload_n 0, 1) := by decide +kernel
theorem dX2_readNumber_30 : decode cX2_readNumber 30 = .ok (.getfield 9, 3) := by decide +kernel
theorem dX2_readNumber_33 : decode cX2_readNumber 33 = .ok (.invokevirtual 57, 3) := by decide +kernel
theorem dX2_readNumber_36 : decode cX2_readNumber 36 = .ok (.istore 5, 2) := by decide +kernel
theorem dX2_readNumber_38 : decode cX2_readNumber 38 = .ok (.iload 4, 2) := by decide +kernel
theorem dX2_readNumber_40 : decode cX2_readNumber 40 = .ok (.ifCond .eq 21, 3) := by decide +kernel
theorem dX2_readNumber_43 : decode cX2_readNumber 43 = .ok (.iload 5, 2) := by decide +kernel
theorem dX2_readNumber_45 : decode cX2_readNumber 45 = .ok (.iconst (-1), 1) := by decide +kernel
theorem dX2_readNumber_46 : decode cX2_readNumber 46 = .ok (.if_icmp .eq 15, 3) := by decide +kernel
theorem dX2_readNumber_49 : decode cX2_readNumber 49 = .ok (.iload 4, 2) := by decide +kernel
theorem dX2_readNumber_51 : decode cX2_readNumber 51 = .ok (.bipush 10, 2) := by decide +kernel
theorem dX2_readNumber_53 : decode cX2_readNumber 53 = .ok (.imul, 1) := by decide +kernel
theorem dX2_readNumber_54 : decode cX2_readNumber 54 = .ok (.iload 5, 2) := by decide +kernel
theorem dX2_readNumber_56 : decode cX2_readNumber 56 = .ok (.iadd, 1) := by decide +kernel
theorem dX2_readNumber_57 : decode cX2_readNumber 57 = .ok (.iload_n 3, 1) := by decide +kernel
theorem dX2_readNumber_58 : decode cX2_readNumber 58 = .ok (.if_icmp .le 6, 3) := by decide +kernel
theorem dX2_readNumber_61 : decode cX2_readNumber 61 = .ok (.iload 4, 2) := by decide +kernel
theorem dX2_readNumber_63 : decode cX2_readNumber 63 = .ok (.ireturn, 1) := by decide +kernel
theorem dX2_readNumber_64 : decode cX2_readNumber 64 = .ok (.aload_n 0, 1) := by decide +kernel
theorem dX2_readNumber_65 : decode cX2_readNumber 65 = .ok (.dup, 1) := by decide +kernel
theorem dX2_readNumber_66 : decode cX2_readNumber 66 = .ok (.getfield 9, 3) := by decide +kernel
theorem dX2_readNumber_69 : decode cX2_readNumber 69 = .ok (.iconst 1, 1) := by decide +kernel
theorem dX2_readNumber_70 : decode cX2_readNumber 70 = .ok (.iadd, 1) := by decide +kernel
theorem dX2_readNumber_71 : decode cX2_readNumber 71 = .ok (.putfield 9, 3) := by decide +kernel
theorem dX2_readNumber_74 : decode cX2_readNumber 74 = .ok (.iload 4, 2) := by decide +kernel
theorem dX2_readNumber_76 : decode cX2_readNumber 76 = .ok (.bipush 10, 2) := by decide +kernel
theorem dX2_readNumber_78 : decode cX2_readNumber 78 = .ok (.imul, 1) := by decide +kernel
theorem dX2_readNumber_79 : decode cX2_readNumber 79 = .ok (.iload 5, 2) := by decide +kernel
theorem dX2_readNumber_81 : decode cX2_readNumber 81 = .ok (.iadd, 1) := by decide +kernel
theorem dX2_readNumber_82 : decode cX2_readNumber 82 = .ok (.ireturn, 1) := by decide +kernel
theorem dX3_init_0 : decode cX3_init 0 = .ok (.aload_n 0, 1) := by decide +kernel
theorem dX3_init_1 : decode cX3_init 1 = .ok (.invokespecial 3, 3) := by decide +kernel
theorem dX3_init_4 : decode cX3_init 4 = .ok (.aload_n 0, 1) := by decide +kernel
theorem dX3_init_5 : decode cX3_init 5 = .ok (.bipush 40, 2) := by decide +kernel
theorem dX3_init_7 : decode cX3_init 7 = .ok (.newarray .int, 2) := by decide +kernel
theorem dX3_init_9 : decode cX3_init 9 = .ok (.putfield 9, 3) := by decide +kernel
theorem dX3_init_12 : decode cX3_init 12 = .ok (.aload_n 0, 1) := by decide +kernel
theorem dX3_init_13 : decode cX3_init 13 = .ok (.bipush 40, 2) := by decide +kernel
theorem dX3_init_15 : decode cX3_init 15 = .ok (.newarray .int, 2) := by decide +kernel
theorem dX3_init_17 : decode cX3_init 17 = .ok (.putfield 15, 3) := by decide +kernel
theorem dX3_init_20 : decode cX3_init 20 = .ok (.aload_n 0, 1) := by decide +kernel
theorem dX3_init_21 : decode cX3_init 21 = .ok (.bipush 40, 2) := by decide +kernel
theorem dX3_init_23 : decode cX3_init 23 = .ok (.newarray .int, 2) := by decide +kernel
theorem dX3_init_25 : decode cX3_init 25 = .ok (.putfield 18, 3) := by decide +kernel
theorem dX3_init_28 : decode cX3_init 28 = .ok (.aload_n 0, 1) := by decide +kernel
theorem dX3_init_29 : decode cX3_init 29 = .ok (.bipush 40, 2) := by decide +kernel
theorem dX3_init_31 : decode cX3_init 31 = .ok (.newarray .int, 2) := by decide +kernel
theorem dX3_init_33 : decode cX3_init 33 = .ok (.putfield 21, 3) := by decide +kernel
theorem dX3_init_36 : decode cX3_init 36 = .ok (.aload_n 0, 1) := by decide +kernel
theorem dX3_init_37 : decode cX3_init 37 = .ok (.bipush 40, 2) := by decide +kernel
theorem dX3_init_39 : decode cX3_init 39 = .ok (.newarray .int, 2) := by decide +kernel
theorem dX3_init_41 : decode cX3_init 41 = .ok (.putfield 24, 3) := by decide +kernel
theorem dX3_init_44 : decode cX3_init 44 = .ok (.aload_n 0, 1) := by decide +kernel
theorem dX3_init_45 : decode cX3_init 45 = .ok (.iconst 0, 1) := by decide +kernel
theorem dX3_init_46 : decode cX3_init 46 = .ok (.putfield 27, 3) := by decide +kernel
theorem dX3_init_49 : decode cX3_init 49 = .ok (.return_, 1) := by decide +kernel
theorem dX3_size_0 : decode cX3_size 0 = .ok (.aload_n 0, 1) := by decide +kernel
theorem dX3_size_1 : decode cX3_size 1 = .ok (.getfield 27, 3) := by decide +kernel
theorem dX3_size_4 : decode cX3_size 4 = .ok (.ireturn, 1) := by decide +kernel
theorem dX3_has_0 : decode cX3_has 0 = .ok (.iload_n 1, 1) := by decide +kernel
theorem dX3_has_1 : decode cX3_has 1 = .ok (.ifCond .lt 21, 3) := by decide +kernel
theorem dX3_has_4 : decode cX3_has 4 = .ok (.iload_n 1, 1) := by decide +kernel
theorem dX3_has_5 : decode cX3_has 5 = .ok (.aload_n 0, 1) := by decide +kernel
theorem dX3_has_6 : decode cX3_has 6 = .ok (.getfield 27, 3) := by decide +kernel
theorem dX3_has_9 : decode cX3_has 9 = .ok (.if_icmp .ge 13, 3) := by decide +kernel
theorem dX3_has_12 : decode cX3_has 12 = .ok (.iload_n 1, 1) := by decide +kernel
theorem dX3_has_13 : decode cX3_has 13 = .ok (.bipush 40, 2) := by decide +kernel
theorem dX3_has_15 : decode cX3_has 15 = .ok (.if_icmp .ge 7, 3) := by decide +kernel
theorem dX3_has_18 : decode cX3_has 18 = .ok (.iconst 1, 1) := by decide +kernel
theorem dX3_has_19 : decode cX3_has 19 = .ok (.goto 4, 3) := by decide +kernel
theorem dX3_has_22 : decode cX3_has 22 = .ok (.iconst 0, 1) := by decide +kernel
theorem dX3_has_23 : decode cX3_has 23 = .ok (.ireturn, 1) := by decide +kernel
theorem dX3_beginningOf_0 : decode cX3_beginningOf 0 = .ok (.aload_n 0, 1) := by decide +kernel
theorem dX3_beginningOf_1 : decode cX3_beginningOf 1 = .ok (.iload_n 1, 1) := by decide +kernel
theorem dX3_beginningOf_2 : decode cX3_beginningOf 2 = .ok (.invokevirtual 31, 3) := by decide +kernel
theorem dX3_beginningOf_5 : decode cX3_beginningOf 5 = .ok (.ifCond .eq 12, 3) := by decide +kernel
theorem dX3_beginningOf_8 : decode cX3_beginningOf 8 = .ok (.aload_n 0, 1) := by decide +kernel
theorem dX3_beginningOf_9 : decode cX3_beginningOf 9 = .ok (.getfield 9, 3) := by decide +kernel
theorem dX3_beginningOf_12 : decode cX3_beginningOf 12 = .ok (.iload_n 1, 1) := by decide +kernel
theorem dX3_beginningOf_13 : decode cX3_beginningOf 13 = .ok (.iaload, 1) := by decide +kernel
theorem dX3_beginningOf_14 : decode cX3_beginningOf 14 = .ok (.goto 4, 3) := by decide +kernel
theorem dX3_beginningOf_17 : decode cX3_beginningOf 17 = .ok (.iconst 0, 1) := by decide +kernel
theorem dX3_beginningOf_18 : decode cX3_beginningOf 18 = .ok (.ireturn, 1) := by decide +kernel
theorem dX3_lengthOf_0 : decode cX3_lengthOf 0 = .ok (.aload_n 0, 1) := by decide +kernel
theorem dX3_lengthOf_1 : decode cX3_lengthOf 1 = .ok (.iload_n 1, 1) := by decide +kernel
theorem dX3_lengthOf_2 : decode cX3_lengthOf 2 = .ok (.invokevirtual 31, 3) := by decide +kernel
theorem dX3_lengthOf_5 : decode cX3_lengthOf 5 = .ok (.ifCond .eq 12, 3) := by decide +kernel
theorem dX3_lengthOf_8 : decode cX3_lengthOf 8 = .ok (.aload_n 0, 1) := by decide +kernel
theorem dX3_lengthOf_9 : decode cX3_lengthOf 9 = .ok (.getfield 15, 3) := by decide +kernel
theorem dX3_lengthOf_12 : decode cX3_lengthOf 12 = .ok (.iload_n 1, 1) := by decide +kernel
theorem dX3_lengthOf_13 : decode cX3_lengthOf 13 = .ok (.iaload, 1) := by decide +kernel
theorem dX3_lengthOf_14 : decode cX3_lengthOf 14 = .ok (.goto 4, 3) := by decide +kernel
theorem dX3_lengthOf_17 : decode cX3_lengthOf 17 = .ok (.iconst 0, 1) := by decide +kernel
theorem dX3_lengthOf_18 : decode cX3_lengthOf 18 = .ok (.ireturn, 1) := by decide +kernel
theorem dX3_pitchOf_0 : decode cX3_pitchOf 0 = .ok (.aload_n 0, 1) := by decide +kernel
theorem dX3_pitchOf_1 : decode cX3_pitchOf 1 = .ok (.iload_n 1, 1) := by decide +kernel
theorem dX3_pitchOf_2 : decode cX3_pitchOf 2 = .ok (.invokevirtual 31, 3) := by decide +kernel
theorem dX3_pitchOf_5 : decode cX3_pitchOf 5 = .ok (.ifCond .eq 12, 3) := by decide +kernel
theorem dX3_pitchOf_8 : decode cX3_pitchOf 8 = .ok (.aload_n 0, 1) := by decide +kernel
theorem dX3_pitchOf_9 : decode cX3_pitchOf 9 = .ok (.getfield 18, 3) := by decide +kernel
theorem dX3_pitchOf_12 : decode cX3_pitchOf 12 = .ok (.iload_n 1, 1) := by decide +kernel
theorem dX3_pitchOf_13 : decode cX3_pitchOf 13 = .ok (.iaload, 1) := by decide +kernel
theorem dX3_pitchOf_14 : decode cX3_pitchOf 14 = .ok (.goto 4, 3) := by decide +kernel
theorem dX3_pitchOf_17 : decode cX3_pitchOf 17 = .ok (.iconst 0, 1) := by decide +kernel
theorem dX3_pitchOf_18 : decode cX3_pitchOf 18 = .ok (.ireturn, 1) := by decide +kernel
theorem dX3_endPitchOf_0 : decode cX3_endPitchOf 0 = .ok (.aload_n 0, 1) := by decide +kernel
theorem dX3_endPitchOf_1 : decode cX3_endPitchOf 1 = .ok (.iload_n 1, 1) := by decide +kernel
theorem dX3_endPitchOf_2 : decode cX3_endPitchOf 2 = .ok (.invokevirtual 31, 3) := by decide +kernel
theorem dX3_endPitchOf_5 : decode cX3_endPitchOf 5 = .ok (.ifCond .eq 12, 3) := by decide +kernel
theorem dX3_endPitchOf_8 : decode cX3_endPitchOf 8 = .ok (.aload_n 0, 1) := by decide +kernel
theorem dX3_endPitchOf_9 : decode cX3_endPitchOf 9 = .ok (.getfield 21, 3) := by decide +kernel
theorem dX3_endPitchOf_12 : decode cX3_endPitchOf 12 = .ok (.iload_n 1, 1) := by decide +kernel
theorem dX3_endPitchOf_13 : decode cX3_endPitchOf 13 = .ok (.iaload, 1) := by decide +kernel
theorem dX3_endPitchOf_14 : decode cX3_endPitchOf 14 = .ok (.goto 4, 3) := by decide +kernel
theorem dX3_endPitchOf_17 : decode cX3_endPitchOf 17 = .ok (.iconst 0, 1) := by decide +kernel
theorem dX3_endPitchOf_18 : decode cX3_endPitchOf 18 = .ok (.ireturn, 1) := by decide +kernel
theorem dX3_phraseOf_0 : decode cX3_phraseOf 0 = .ok (.aload_n 0, 1) := by decide +kernel
theorem dX3_phraseOf_1 : decode cX3_phraseOf 1 = .ok (.iload_n 1, 1) := by decide +kernel
theorem dX3_phraseOf_2 : decode cX3_phraseOf 2 = .ok (.invokevirtual 31, 3) := by decide +kernel
theorem dX3_phraseOf_5 : decode cX3_phraseOf 5 = .ok (.ifCond .eq 12, 3) := by decide +kernel
theorem dX3_phraseOf_8 : decode cX3_phraseOf 8 = .ok (.aload_n 0, 1) := by decide +kernel
theorem dX3_phraseOf_9 : decode cX3_phraseOf 9 = .ok (.getfield 24, 3) := by decide +kernel
theorem dX3_phraseOf_12 : decode cX3_phraseOf 12 = .ok (.iload_n 1, 1) := by decide +kernel
theorem dX3_phraseOf_13 : decode cX3_phraseOf 13 = .ok (.iaload, 1) := by decide +kernel
theorem dX3_phraseOf_14 : decode cX3_phraseOf 14 = .ok (.goto 5, 3) := by decide +kernel
theorem dX3_phraseOf_17 : decode cX3_phraseOf 17 = .ok (.bipush (-5), 2) := by decide +kernel
theorem dX3_phraseOf_19 : decode cX3_phraseOf 19 = .ok (.ireturn, 1) := by decide +kernel
theorem dX3_ticks_0 : decode cX3_ticks 0 = .ok (.aload_n 0, 1) := by decide +kernel
theorem dX3_ticks_1 : decode cX3_ticks 1 = .ok (.aload_n 0, 1) := by decide +kernel
theorem dX3_ticks_2 : decode cX3_ticks 2 = .ok (.getfield 27, 3) := by decide +kernel
theorem dX3_ticks_5 : decode cX3_ticks 5 = .ok (.iconst 1, 1) := by decide +kernel
theorem dX3_ticks_6 : decode cX3_ticks 6 = .ok (.isub, 1) := by decide +kernel
theorem dX3_ticks_7 : decode cX3_ticks 7 = .ok (.invokevirtual 35, 3) := by decide +kernel
theorem dX3_ticks_10 : decode cX3_ticks 10 = .ok (.aload_n 0, 1) := by decide +kernel
theorem dX3_ticks_11 : decode cX3_ticks 11 = .ok (.aload_n 0, 1) := by decide +kernel
theorem dX3_ticks_12 : decode cX3_ticks 12 = .ok (.getfield 27, 3) := by decide +kernel
theorem dX3_ticks_15 : decode cX3_ticks 15 = .ok (.iconst 1, 1) := by decide +kernel
theorem dX3_ticks_16 : decode cX3_ticks 16 = .ok (.isub, 1) := by decide +kernel
theorem dX3_ticks_17 : decode cX3_ticks 17 = .ok (.invokevirtual 39, 3) := by decide +kernel
theorem dX3_ticks_20 : decode cX3_ticks 20 = .ok (.iadd, 1) := by decide +kernel
theorem dX3_ticks_21 : decode cX3_ticks 21 = .ok (.ireturn, 1) := by decide +kernel
theorem dX3_phraseCount_0 : decode cX3_phraseCount 0 = .ok (.aload_n 0, 1) := by decide +kernel
theorem dX3_phraseCount_1 : decode cX3_phraseCount 1 = .ok (.getfield 27, 3) := by decide +kernel
theorem dX3_phraseCount_4 : decode cX3_phraseCount 4 = .ok (.ifCond .ne 7, 3) := by decide +kernel
theorem dX3_phraseCount_7 : decode cX3_phraseCount 7 = .ok (.iconst 0, 1) := by decide +kernel
theorem dX3_phraseCount_8 : decode cX3_phraseCount 8 = .ok (.goto 15, 3) := by decide +kernel
theorem dX3_phraseCount_11 : decode cX3_phraseCount 11 = .ok (.aload_n 0, 1) := by decide +kernel
theorem dX3_phraseCount_12 : decode cX3_phraseCount 12 = .ok (.aload_n 0, 1) := by decide +kernel
theorem dX3_phraseCount_13 : decode cX3_phraseCount 13 = .ok (.getfield 27, 3) := by decide +kernel
theorem dX3_phraseCount_16 : decode cX3_phraseCount 16 = .ok (.iconst 1, 1) := by decide +kernel
theorem dX3_phraseCount_17 : decode cX3_phraseCount 17 = .ok (.isub, 1) := by decide +kernel
theorem dX3_phraseCount_18 : decode cX3_phraseCount 18 = .ok (.invokevirtual 42, 3) := by decide +kernel
theorem dX3_phraseCount_21 : decode cX3_phraseCount 21 = .ok (.iconst 1, 1) := by decide +kernel
theorem dX3_phraseCount_22 : decode cX3_phraseCount 22 = .ok (.iadd, 1) := by decide +kernel
theorem dX3_phraseCount_23 : decode cX3_phraseCount 23 = .ok (.ireturn, 1) := by decide +kernel
theorem dX3_firstOfPhrase_0 : decode cX3_firstOfPhrase 0 = .ok (.iconst 0, 1) := by decide +kernel
theorem dX3_firstOfPhrase_1 : decode cX3_firstOfPhrase 1 = .ok (.istore_n 2, 1) := by decide +kernel
theorem dX3_firstOfPhrase_2 : decode cX3_firstOfPhrase 2 = .ok (.iload_n 2, 1) := by decide +kernel
theorem dX3_firstOfPhrase_3 : decode cX3_firstOfPhrase 3 = .ok (.aload_n 0, 1) := by decide +kernel
theorem dX3_firstOfPhrase_4 : decode cX3_firstOfPhrase 4 = .ok (.getfield 27, 3) := by decide +kernel
theorem dX3_firstOfPhrase_7 : decode cX3_firstOfPhrase 7 = .ok (.if_icmp .ge 20, 3) := by decide +kernel
theorem dX3_firstOfPhrase_10 : decode cX3_firstOfPhrase 10 = .ok (.aload_n 0, 1) := by decide +kernel
theorem dX3_firstOfPhrase_11 : decode cX3_firstOfPhrase 11 = .ok (.iload_n 2, 1) := by decide +kernel
theorem dX3_firstOfPhrase_12 : decode cX3_firstOfPhrase 12 = .ok (.invokevirtual 42, 3) := by decide +kernel
theorem dX3_firstOfPhrase_15 : decode cX3_firstOfPhrase 15 = .ok (.iload_n 1, 1) := by decide +kernel
theorem dX3_firstOfPhrase_16 : decode cX3_firstOfPhrase 16 = .ok (.if_icmp .ne 5, 3) := by decide +kernel
theorem dX3_firstOfPhrase_19 : decode cX3_firstOfPhrase 19 = .ok (.iload_n 2, 1) := by decide +kernel
theorem dX3_firstOfPhrase_20 : decode cX3_firstOfPhrase 20 = .ok (.ireturn, 1) := by decide +kernel
theorem dX3_firstOfPhrase_21 : decode cX3_firstOfPhrase 21 = .ok (.iinc 2 1, 3) := by decide +kernel
theorem dX3_firstOfPhrase_24 : decode cX3_firstOfPhrase 24 = .ok (.goto (-22), 3) := by decide +kernel
theorem dX3_firstOfPhrase_27 : decode cX3_firstOfPhrase 27 = .ok (.bipush (-5), 2) := by decide +kernel
theorem dX3_firstOfPhrase_29 : decode cX3_firstOfPhrase 29 = .ok (.ireturn, 1) := by decide +kernel
theorem dX3_sizeOfPhrase_0 : decode cX3_sizeOfPhrase 0 = .ok (.iconst 0, 1) := by decide +kernel
theorem dX3_sizeOfPhrase_1 : decode cX3_sizeOfPhrase 1 = .ok (.istore_n 2, 1) := by decide +kernel
theorem dX3_sizeOfPhrase_2 : decode cX3_sizeOfPhrase 2 = .ok (.iconst 0, 1) := by decide +kernel
theorem dX3_sizeOfPhrase_3 : decode cX3_sizeOfPhrase 3 = .ok (.istore_n 3, 1) := by decide +kernel
theorem dX3_sizeOfPhrase_4 : decode cX3_sizeOfPhrase 4 = .ok (.iload_n 3, 1) := by decide +kernel
theorem dX3_sizeOfPhrase_5 : decode cX3_sizeOfPhrase 5 = .ok (.aload_n 0, 1) := by decide +kernel
theorem dX3_sizeOfPhrase_6 : decode cX3_sizeOfPhrase 6 = .ok (.getfield 27, 3) := by decide +kernel
theorem dX3_sizeOfPhrase_9 : decode cX3_sizeOfPhrase 9 = .ok (.if_icmp .ge 21, 3) := by decide +kernel
theorem dX3_sizeOfPhrase_12 : decode cX3_sizeOfPhrase 12 = .ok (.aload_n 0, 1) := by decide +kernel
theorem dX3_sizeOfPhrase_13 : decode cX3_sizeOfPhrase 13 = .ok (.iload_n 3, 1) := by decide +kernel
theorem dX3_sizeOfPhrase_14 : decode cX3_sizeOfPhrase 14 = .ok (.invokevirtual 42, 3) := by decide +kernel
theorem dX3_sizeOfPhrase_17 : decode cX3_sizeOfPhrase 17 = .ok (.iload_n 1, 1) := by decide +kernel
theorem dX3_sizeOfPhrase_18 : decode cX3_sizeOfPhrase 18 = .ok (.if_icmp .ne 6, 3) := by decide +kernel
theorem dX3_sizeOfPhrase_21 : decode cX3_sizeOfPhrase 21 = .ok (.iinc 2 1, 3) := by decide +kernel
theorem dX3_sizeOfPhrase_24 : decode cX3_sizeOfPhrase 24 = .ok (.iinc 3 1, 3) := by decide +kernel
theorem dX3_sizeOfPhrase_27 : decode cX3_sizeOfPhrase 27 = .ok (.goto (-23), 3) := by decide +kernel
theorem dX3_sizeOfPhrase_30 : decode cX3_sizeOfPhrase 30 = .ok (.iload_n 2, 1) := by decide +kernel
theorem dX3_sizeOfPhrase_31 : decode cX3_sizeOfPhrase 31 = .ok (.ireturn, 1) := by decide +kernel
theorem dX3_beginsPhrase_0 : decode cX3_beginsPhrase 0 = .ok (.iload_n 1, 1) := by decide +kernel
theorem dX3_beginsPhrase_1 : decode cX3_beginsPhrase 1 = .ok (.ifCond .eq 18, 3) := by decide +kernel
theorem dX3_beginsPhrase_4 : decode cX3_beginsPhrase 4 = .ok (.aload_n 0, 1) := by decide +kernel
theorem dX3_beginsPhrase_5 : decode cX3_beginsPhrase 5 = .ok (.iload_n 1, 1) := by decide +kernel
theorem dX3_beginsPhrase_6 : decode cX3_beginsPhrase 6 = .ok (.invokevirtual 42, 3) := by decide +kernel
theorem dX3_beginsPhrase_9 : decode cX3_beginsPhrase 9 = .ok (.aload_n 0, 1) := by decide +kernel
theorem dX3_beginsPhrase_10 : decode cX3_beginsPhrase 10 = .ok (.iload_n 1, 1) := by decide +kernel
theorem dX3_beginsPhrase_11 : decode cX3_beginsPhrase 11 = .ok (.iconst 1, 1) := by decide +kernel
theorem dX3_beginsPhrase_12 : decode cX3_beginsPhrase 12 = .ok (.isub, 1) := by decide +kernel
theorem dX3_beginsPhrase_13 : decode cX3_beginsPhrase 13 = .ok (.invokevirtual 42, 3) := by decide +kernel
theorem dX3_beginsPhrase_16 : decode cX3_beginsPhrase 16 = .ok (.if_icmp .eq 7, 3) := by decide +kernel
theorem dX3_beginsPhrase_19 : decode cX3_beginsPhrase 19 = .ok (.iconst 1, 1) := by decide +kernel
theorem dX3_beginsPhrase_20 : decode cX3_beginsPhrase 20 = .ok (.goto 4, 3) := by decide +kernel
theorem dX3_beginsPhrase_23 : decode cX3_beginsPhrase 23 = .ok (.iconst 0, 1) := by decide +kernel
theorem dX3_beginsPhrase_24 : decode cX3_beginsPhrase 24 = .ok (.ireturn, 1) := by decide +kernel
theorem dX3_wantedOf_0 : decode cX3_wantedOf 0 = .ok (.aload_n 0, 1) := by decide +kernel
theorem dX3_wantedOf_1 : decode cX3_wantedOf 1 = .ok (.iload_n 1, 1) := by decide +kernel
theorem dX3_wantedOf_2 : decode cX3_wantedOf 2 = .ok (.invokevirtual 39, 3) := by decide +kernel
theorem dX3_wantedOf_5 : decode cX3_wantedOf 5 = .ok (.iconst 1, 1) := by decide +kernel
theorem dX3_wantedOf_6 : decode cX3_wantedOf 6 = .ok (.isub, 1) := by decide +kernel
theorem dX3_wantedOf_7 : decode cX3_wantedOf 7 = .ok (.istore_n 3, 1) := by decide +kernel
theorem dX3_wantedOf_8 : decode cX3_wantedOf 8 = .ok (.aload_n 0, 1) := by decide +kernel
theorem dX3_wantedOf_9 : decode cX3_wantedOf 9 = .ok (.iload_n 1, 1) := by decide +kernel
theorem dX3_wantedOf_10 : decode cX3_wantedOf 10 = .ok (.invokevirtual 45, 3) := by decide +kernel
theorem dX3_wantedOf_13 : decode cX3_wantedOf 13 = .ok (.istore 4, 2) := by decide +kernel
theorem dX3_wantedOf_15 : decode cX3_wantedOf 15 = .ok (.iload_n 3, 1) := by decide +kernel
theorem dX3_wantedOf_16 : decode cX3_wantedOf 16 = .ok (.iconst 1, 1) := by decide +kernel
theorem dX3_wantedOf_17 : decode cX3_wantedOf 17 = .ok (.if_icmp .ge 6, 3) := by decide +kernel
theorem dX3_wantedOf_20 : decode cX3_wantedOf 20 = .ok (.iload 4, 2) := by decide +kernel
theorem dX3_wantedOf_22 : decode cX3_wantedOf 22 = .ok (.ireturn, 1) := by decide +kernel
theorem dX3_wantedOf_23 : decode cX3_wantedOf 23 = .ok (.iload 4, 2) := by decide +kernel
theorem dX3_wantedOf_25 : decode cX3_wantedOf 25 = .ok (.aload_n 0, 1) := by decide +kernel
theorem dX3_wantedOf_26 : decode cX3_wantedOf 26 = .ok (.iload_n 1, 1) := by decide +kernel
theorem dX3_wantedOf_27 : decode cX3_wantedOf 27 = .ok (.invokevirtual 48, 3) := by decide +kernel
theorem dX3_wantedOf_30 : decode cX3_wantedOf 30 = .ok (.iload 4, 2) := by decide +kernel
theorem dX3_wantedOf_32 : decode cX3_wantedOf 32 = .ok (.isub, 1) := by decide +kernel
theorem dX3_wantedOf_33 : decode cX3_wantedOf 33 = .ok (.iload_n 2, 1) := by decide +kernel
theorem dX3_wantedOf_34 : decode cX3_wantedOf 34 = .ok (.imul, 1) := by decide +kernel
theorem dX3_wantedOf_35 : decode cX3_wantedOf 35 = .ok (.iload_n 3, 1) := by decide +kernel
theorem dX3_wantedOf_36 : decode cX3_wantedOf 36 = .ok (.idiv, 1) := by decide +kernel
theorem dX3_wantedOf_37 : decode cX3_wantedOf 37 = .ok (.iadd, 1) := by decide +kernel
theorem dX3_wantedOf_38 : decode cX3_wantedOf 38 = .ok (.ireturn, 1) := by decide +kernel
theorem dX3_barLinesOf_0 : decode cX3_barLinesOf 0 = .ok (.iload_n 2, 1) := by decide +kernel
theorem dX3_barLinesOf_1 : decode cX3_barLinesOf 1 = .ok (.iconst 1, 1) := by decide +kernel
theorem dX3_barLinesOf_2 : decode cX3_barLinesOf 2 = .ok (.if_icmp .ge 5, 3) := by decide +kernel
theorem dX3_barLinesOf_5 : decode cX3_barLinesOf 5 = .ok (.iconst 0, 1) := by decide +kernel
theorem dX3_barLinesOf_6 : decode cX3_barLinesOf 6 = .ok (.ireturn, 1) := by decide +kernel
theorem dX3_barLinesOf_7 : decode cX3_barLinesOf 7 = .ok (.aload_n 0, 1) := by decide +kernel
theorem dX3_barLinesOf_8 : decode cX3_barLinesOf 8 = .ok (.iload_n 1, 1) := by decide +kernel
theorem dX3_barLinesOf_9 : decode cX3_barLinesOf 9 = .ok (.invokevirtual 35, 3) := by decide +kernel
theorem dX3_barLinesOf_12 : decode cX3_barLinesOf 12 = .ok (.istore_n 3, 1) := by decide +kernel
theorem dX3_barLinesOf_13 : decode cX3_barLinesOf 13 = .ok (.iload_n 3, 1) := by decide +kernel
theorem dX3_barLinesOf_14 : decode cX3_barLinesOf 14 = .ok (.aload_n 0, 1) := by decide +kernel
theorem dX3_barLinesOf_15 : decode cX3_barLinesOf 15 = .ok (.iload_n 1, 1) := by decide +kernel
theorem dX3_barLinesOf_16 : decode cX3_barLinesOf 16 = .ok (.invokevirtual 39, 3) := by decide +kernel
theorem dX3_barLinesOf_19 : decode cX3_barLinesOf 19 = .ok (.iadd, 1) := by decide +kernel
theorem dX3_barLinesOf_20 : decode cX3_barLinesOf 20 = .ok (.iconst 1, 1) := by decide +kernel
theorem dX3_barLinesOf_21 : decode cX3_barLinesOf 21 = .ok (.isub, 1) := by decide +kernel
theorem dX3_barLinesOf_22 : decode cX3_barLinesOf 22 = .ok (.istore 4, 2) := by decide +kernel
theorem dX3_barLinesOf_24 : decode cX3_barLinesOf 24 = .ok (.iload 4, 2) := by decide +kernel
theorem dX3_barLinesOf_26 : decode cX3_barLinesOf 26 = .ok (.iload_n 2, 1) := by decide +kernel
theorem dX3_barLinesOf_27 : decode cX3_barLinesOf 27 = .ok (.idiv, 1) := by decide +kernel
theorem dX3_barLinesOf_28 : decode cX3_barLinesOf 28 = .ok (.iload_n 3, 1) := by decide +kernel
theorem dX3_barLinesOf_29 : decode cX3_barLinesOf 29 = .ok (.iload_n 2, 1) := by decide +kernel
theorem dX3_barLinesOf_30 : decode cX3_barLinesOf 30 = .ok (.idiv, 1) := by decide +kernel
theorem dX3_barLinesOf_31 : decode cX3_barLinesOf 31 = .ok (.isub, 1) := by decide +kernel
theorem dX3_barLinesOf_32 : decode cX3_barLinesOf 32 = .ok (.ireturn, 1) := by decide +kernel
theorem dX3_hasRoomFor_0 : decode cX3_hasRoomFor 0 = .ok (.aload_n 0, 1) := by decide +kernel
theorem dX3_hasRoomFor_1 : decode cX3_hasRoomFor 1 = .ok (.getfield 27, 3) := by decide +kernel
theorem dX3_hasRoomFor_4 : decode cX3_hasRoomFor 4 = .ok (.bipush 40, 2) := by decide +kernel
theorem dX3_hasRoomFor_6 : decode cX3_hasRoomFor 6 = .ok (.if_icmp .ge 21, 3) := by decide +kernel
theorem dX3_hasRoomFor_9 : decode cX3_hasRoomFor 9 = .ok (.aload_n 0, 1) := by decide +kernel
theorem dX3_hasRoomFor_10 : decode cX3_hasRoomFor 10 = .ok (.invokevirtual 51, 3) := by decide +kernel
theorem dX3_hasRoomFor_13 : decode cX3_hasRoomFor 13 = .ok (.iload_n 1, 1) := by decide +kernel
theorem dX3_hasRoomFor_14 : decode cX3_hasRoomFor 14 = .ok (.iadd, 1) := by decide +kernel
theorem dX3_hasRoomFor_15 : decode cX3_hasRoomFor 15 = .ok (.iload_n 2, 1) := by decide +kernel
theorem dX3_hasRoomFor_16 : decode cX3_hasRoomFor 16 = .ok (.iadd, 1) := by decide +kernel
theorem dX3_hasRoomFor_17 : decode cX3_hasRoomFor 17 = .ok (.sipush 600, 3) := by decide +kernel
theorem dX3_hasRoomFor_20 : decode cX3_hasRoomFor 20 = .ok (.if_icmp .gt 7, 3) := by decide +kernel
theorem dX3_hasRoomFor_23 : decode cX3_hasRoomFor 23 = .ok (.iconst 1, 1) := by decide +kernel
theorem dX3_hasRoomFor_24 : decode cX3_hasRoomFor 24 = .ok (.goto 4, 3) := by decide +kernel
theorem dX3_hasRoomFor_27 : decode cX3_hasRoomFor 27 = .ok (.iconst 0, 1) := by decide +kernel
theorem dX3_hasRoomFor_28 : decode cX3_hasRoomFor 28 = .ok (.ireturn, 1) := by decide +kernel
theorem dX3_append_0 : decode cX3_append 0 = .ok (.aload_n 0, 1) := by decide +kernel
theorem dX3_append_1 : decode cX3_append 1 = .ok (.getfield 27, 3) := by decide +kernel
theorem dX3_append_4 : decode cX3_append 4 = .ok (.ifCond .lt 12, 3) := by decide +kernel
theorem dX3_append_7 : decode cX3_append 7 = .ok (.aload_n 0, 1) := by decide +kernel
theorem dX3_append_8 : decode cX3_append 8 = .ok (.getfield 27, 3) := by decide +kernel
theorem dX3_append_11 : decode cX3_append 11 = .ok (.bipush 40, 2) := by decide +kernel
theorem dX3_append_13 : decode cX3_append 13 = .ok (.if_icmp .lt 6, 3) := by decide +kernel
theorem dX3_append_16 : decode cX3_append 16 = .ok (.bipush (-3), 2) := by decide +kernel
theorem dX3_append_18 : decode cX3_append 18 = .ok (.ireturn, 1) := by decide +kernel
theorem dX3_append_19 : decode cX3_append 19 = .ok (.aload_n 0, 1) := by decide +kernel
theorem dX3_append_20 : decode cX3_append 20 = .ok (.invokevirtual 51, 3) := by decide +kernel
theorem dX3_append_23 : decode cX3_append 23 = .ok (.iload_n 1, 1) := by decide +kernel
theorem dX3_append_24 : decode cX3_append 24 = .ok (.iadd, 1) := by decide +kernel
theorem dX3_append_25 : decode cX3_append 25 = .ok (.istore 6, 2) := by decide +kernel
theorem dX3_append_27 : decode cX3_append 27 = .ok (.aload_n 0, 1) := by decide +kernel
theorem dX3_append_28 : decode cX3_append 28 = .ok (.getfield 27, 3) := by decide +kernel
theorem dX3_append_31 : decode cX3_append 31 = .ok (.ifCond .eq 8, 3) := by decide +kernel
theorem dX3_append_34 : decode cX3_append 34 = .ok (.iload 5, 2) := by decide +kernel
theorem dX3_append_36 : decode cX3_append 36 = .ok (.ifCond .eq 10, 3) := by decide +kernel
theorem dX3_append_39 : decode cX3_append 39 = .ok (.aload_n 0, 1) := by decide +kernel
theorem dX3_append_40 : decode cX3_append 40 = .ok (.invokevirtual 55, 3) := by decide +kernel
theorem dX3_append_43 : decode cX3_append 43 = .ok (.goto 9, 3) := by decide +kernel
theorem dX3_append_46 : decode cX3_append 46 = .ok (.aload_n 0, 1) := by decide +kernel
theorem dX3_append_47 : decode cX3_append 47 = .ok (.invokevirtual 55, 3) := by decide +kernel
theorem dX3_append_50 : decode cX3_append 50 = .ok (.iconst 1, 1) := by decide +kernel
theorem dX3_append_51 : decode cX3_append 51 = .ok (.isub, 1) := by decide +kernel
theorem dX3_append_52 : decode cX3_append 52 = .ok (.istore 7, 2) := by decide +kernel
theorem dX3_append_54 : decode cX3_append 54 = .ok (.aload_n 0, 1) := by decide +kernel
theorem dX3_append_55 : decode cX3_append 55 = .ok (.getfield 9, 3) := by decide +kernel
theorem dX3_append_58 : decode cX3_append 58 = .ok (.aload_n 0, 1) := by decide +kernel
theorem dX3_append_59 : decode cX3_append 59 = .ok (.getfield 27, 3) := by decide +kernel
theorem dX3_append_62 : decode cX3_append 62 = .ok (.iload 6, 2) := by decide +kernel
theorem dX3_append_64 : decode cX3_append 64 = .ok (.iastore, 1) := by decide +kernel
theorem dX3_append_65 : decode cX3_append 65 = .ok (.aload_n 0, 1) := by decide +kernel
theorem dX3_append_66 : decode cX3_append 66 = .ok (.getfield 15, 3) := by decide +kernel
theorem dX3_append_69 : decode cX3_append 69 = .ok (.aload_n 0, 1) := by decide +kernel
theorem dX3_append_70 : decode cX3_append 70 = .ok (.getfield 27, 3) := by decide +kernel
theorem dX3_append_73 : decode cX3_append 73 = .ok (.iload 4, 2) := by decide +kernel
theorem dX3_append_75 : decode cX3_append 75 = .ok (.iastore, 1) := by decide +kernel
theorem dX3_append_76 : decode cX3_append 76 = .ok (.aload_n 0, 1) := by decide +kernel
theorem dX3_append_77 : decode cX3_append 77 = .ok (.getfield 18, 3) := by decide +kernel
theorem dX3_append_80 : decode cX3_append 80 = .ok (.aload_n 0, 1) := by decide +kernel
theorem dX3_append_81 : decode cX3_append 81 = .ok (.getfield 27, 3) := by decide +kernel
theorem dX3_append_84 : decode cX3_append 84 = .ok (.iload_n 2, 1) := by decide +kernel
theorem dX3_append_85 : decode cX3_append 85 = .ok (.iastore, 1) := by decide +kernel
theorem dX3_append_86 : decode cX3_append 86 = .ok (.aload_n 0, 1) := by decide +kernel
theorem dX3_append_87 : decode cX3_append 87 = .ok (.getfield 21, 3) := by decide +kernel
theorem dX3_append_90 : decode cX3_append 90 = .ok (.aload_n 0, 1) := by decide +kernel
theorem dX3_append_91 : decode cX3_append 91 = .ok (.getfield 27, 3) := by decide +kernel
theorem dX3_append_94 : decode cX3_append 94 = .ok (.iload_n 3, 1) := by decide +kernel
theorem dX3_append_95 : decode cX3_append 95 = .ok (.iastore, 1) := by decide +kernel
theorem dX3_append_96 : decode cX3_append 96 = .ok (.aload_n 0, 1) := by decide +kernel
theorem dX3_append_97 : decode cX3_append 97 = .ok (.getfield 24, 3) := by decide +kernel
theorem dX3_append_100 : decode cX3_append 100 = .ok (.aload_n 0, 1) := by decide +kernel
theorem dX3_append_101 : decode cX3_append 101 = .ok (.getfield 27, 3) := by decide +kernel
theorem dX3_append_104 : decode cX3_append 104 = .ok (.iload 7, 2) := by decide +kernel
theorem dX3_append_106 : decode cX3_append 106 = .ok (.iastore, 1) := by decide +kernel
theorem dX3_append_107 : decode cX3_append 107 = .ok (.aload_n 0, 1) := by decide +kernel
theorem dX3_append_108 : decode cX3_append 108 = .ok (.dup, 1) := by decide +kernel
theorem dX3_append_109 : decode cX3_append 109 = .ok (.getfield 27, 3) := by decide +kernel
theorem dX3_append_112 : decode cX3_append 112 = .ok (.iconst 1, 1) := by decide +kernel
theorem dX3_append_113 : decode cX3_append 113 = .ok (.iadd, 1) := by decide +kernel
theorem dX3_append_114 : decode cX3_append 114 = .ok (.putfield 27, 3) := by decide +kernel
theorem dX3_append_117 : decode cX3_append 117 = .ok (.iload 6, 2) := by decide +kernel
theorem dX3_append_119 : decode cX3_append 119 = .ok (.ireturn, 1) := by decide +kernel
theorem dX3_removeLast_0 : decode cX3_removeLast 0 = .ok (.aload_n 0, 1) := by decide +kernel
theorem dX3_removeLast_1 : decode cX3_removeLast 1 = .ok (.getfield 27, 3) := by decide +kernel
theorem dX3_removeLast_4 : decode cX3_removeLast 4 = .ok (.ifCond .le 13, 3) := by decide +kernel
theorem dX3_removeLast_7 : decode cX3_removeLast 7 = .ok (.aload_n 0, 1) := by decide +kernel
theorem dX3_removeLast_8 : decode cX3_removeLast 8 = .ok (.dup, 1) := by decide +kernel
theorem dX3_removeLast_9 : decode cX3_removeLast 9 = .ok (.getfield 27, 3) := by decide +kernel
theorem dX3_removeLast_12 : decode cX3_removeLast 12 = .ok (.iconst 1, 1) := by decide +kernel
theorem dX3_removeLast_13 : decode cX3_removeLast 13 = .ok (.isub, 1) := by decide +kernel
theorem dX3_removeLast_14 : decode cX3_removeLast 14 = .ok (.putfield 27, 3) := by decide +kernel
theorem dX3_removeLast_17 : decode cX3_removeLast 17 = .ok (.aload_n 0, 1) := by decide +kernel
theorem dX3_removeLast_18 : decode cX3_removeLast 18 = .ok (.getfield 27, 3) := by decide +kernel
theorem dX3_removeLast_21 : decode cX3_removeLast 21 = .ok (.ireturn, 1) := by decide +kernel
theorem dX3_clear_0 : decode cX3_clear 0 = .ok (.aload_n 0, 1) := by decide +kernel
theorem dX3_clear_1 : decode cX3_clear 1 = .ok (.iconst 0, 1) := by decide +kernel
theorem dX3_clear_2 : decode cX3_clear 2 = .ok (.putfield 27, 3) := by decide +kernel
theorem dX3_clear_5 : decode cX3_clear 5 = .ok (.return_, 1) := by decide +kernel
theorem dX3_copyFrom_0 : decode cX3_copyFrom 0 = .ok (.aload_n 1, 1) := by decide +kernel
theorem dX3_copyFrom_1 : decode cX3_copyFrom 1 = .ok (.getfield 9, 3) := by decide +kernel
theorem dX3_copyFrom_4 : decode cX3_copyFrom 4 = .ok (.iconst 0, 1) := by decide +kernel
theorem dX3_copyFrom_5 : decode cX3_copyFrom 5 = .ok (.aload_n 0, 1) := by decide +kernel
theorem dX3_copyFrom_6 : decode cX3_copyFrom 6 = .ok (.getfield 9, 3) := by decide +kernel
theorem dX3_copyFrom_9 : decode cX3_copyFrom 9 = .ok (.iconst 0, 1) := by decide +kernel
theorem dX3_copyFrom_10 : decode cX3_copyFrom 10 = .ok (.bipush 40, 2) := by decide +kernel
theorem dX3_copyFrom_12 : decode cX3_copyFrom 12 = .ok (.invokestatic 58, 3) := by decide +kernel
theorem dX3_copyFrom_15 : decode cX3_copyFrom 15 = .ok (.aload_n 1, 1) := by decide +kernel
theorem dX3_copyFrom_16 : decode cX3_copyFrom 16 = .ok (.getfield 15, 3) := by decide +kernel
theorem dX3_copyFrom_19 : decode cX3_copyFrom 19 = .ok (.iconst 0, 1) := by decide +kernel
theorem dX3_copyFrom_20 : decode cX3_copyFrom 20 = .ok (.aload_n 0, 1) := by decide +kernel
theorem dX3_copyFrom_21 : decode cX3_copyFrom 21 = .ok (.getfield 15, 3) := by decide +kernel
theorem dX3_copyFrom_24 : decode cX3_copyFrom 24 = .ok (.iconst 0, 1) := by decide +kernel
theorem dX3_copyFrom_25 : decode cX3_copyFrom 25 = .ok (.bipush 40, 2) := by decide +kernel
theorem dX3_copyFrom_27 : decode cX3_copyFrom 27 = .ok (.invokestatic 58, 3) := by decide +kernel
theorem dX3_copyFrom_30 : decode cX3_copyFrom 30 = .ok (.aload_n 1, 1) := by decide +kernel
theorem dX3_copyFrom_31 : decode cX3_copyFrom 31 = .ok (.getfield 18, 3) := by decide +kernel
theorem dX3_copyFrom_34 : decode cX3_copyFrom 34 = .ok (.iconst 0, 1) := by decide +kernel
theorem dX3_copyFrom_35 : decode cX3_copyFrom 35 = .ok (.aload_n 0, 1) := by decide +kernel
theorem dX3_copyFrom_36 : decode cX3_copyFrom 36 = .ok (.getfield 18, 3) := by decide +kernel
theorem dX3_copyFrom_39 : decode cX3_copyFrom 39 = .ok (.iconst 0, 1) := by decide +kernel
theorem dX3_copyFrom_40 : decode cX3_copyFrom 40 = .ok (.bipush 40, 2) := by decide +kernel
theorem dX3_copyFrom_42 : decode cX3_copyFrom 42 = .ok (.invokestatic 58, 3) := by decide +kernel
theorem dX3_copyFrom_45 : decode cX3_copyFrom 45 = .ok (.aload_n 1, 1) := by decide +kernel
theorem dX3_copyFrom_46 : decode cX3_copyFrom 46 = .ok (.getfield 21, 3) := by decide +kernel
theorem dX3_copyFrom_49 : decode cX3_copyFrom 49 = .ok (.iconst 0, 1) := by decide +kernel
theorem dX3_copyFrom_50 : decode cX3_copyFrom 50 = .ok (.aload_n 0, 1) := by decide +kernel
theorem dX3_copyFrom_51 : decode cX3_copyFrom 51 = .ok (.getfield 21, 3) := by decide +kernel
theorem dX3_copyFrom_54 : decode cX3_copyFrom 54 = .ok (.iconst 0, 1) := by decide +kernel
theorem dX3_copyFrom_55 : decode cX3_copyFrom 55 = .ok (.bipush 40, 2) := by decide +kernel
theorem dX3_copyFrom_57 : decode cX3_copyFrom 57 = .ok (.invokestatic 58, 3) := by decide +kernel
theorem dX3_copyFrom_60 : decode cX3_copyFrom 60 = .ok (.aload_n 1, 1) := by decide +kernel
theorem dX3_copyFrom_61 : decode cX3_copyFrom 61 = .ok (.getfield 24, 3) := by decide +kernel
theorem dX3_copyFrom_64 : decode cX3_copyFrom 64 = .ok (.iconst 0, 1) := by decide +kernel
theorem dX3_copyFrom_65 : decode cX3_copyFrom 65 = .ok (.aload_n 0, 1) := by decide +kernel
theorem dX3_copyFrom_66 : decode cX3_copyFrom 66 = .ok (.getfield 24, 3) := by decide +kernel
theorem dX3_copyFrom_69 : decode cX3_copyFrom 69 = .ok (.iconst 0, 1) := by decide +kernel
theorem dX3_copyFrom_70 : decode cX3_copyFrom 70 = .ok (.bipush 40, 2) := by decide +kernel
theorem dX3_copyFrom_72 : decode cX3_copyFrom 72 = .ok (.invokestatic 58, 3) := by decide +kernel
theorem dX3_copyFrom_75 : decode cX3_copyFrom 75 = .ok (.aload_n 0, 1) := by decide +kernel
theorem dX3_copyFrom_76 : decode cX3_copyFrom 76 = .ok (.aload_n 1, 1) := by decide +kernel
theorem dX3_copyFrom_77 : decode cX3_copyFrom 77 = .ok (.getfield 27, 3) := by decide +kernel
theorem dX3_copyFrom_80 : decode cX3_copyFrom 80 = .ok (.putfield 27, 3) := by decide +kernel
theorem dX3_copyFrom_83 : decode cX3_copyFrom 83 = .ok (.return_, 1) := by decide +kernel
theorem dX4_init_0 : decode cX4_init 0 = .ok (.aload_n 0, 1) := by decide +kernel
theorem dX4_init_1 : decode cX4_init 1 = .ok (.invokespecial 3, 3) := by decide +kernel
theorem dX4_init_4 : decode cX4_init 4 = .ok (.aload_n 0, 1) := by decide +kernel
theorem dX4_init_5 : decode cX4_init 5 = .ok (.new 9, 3) := by decide +kernel
theorem dX4_init_8 : decode cX4_init 8 = .ok (.dup, 1) := by decide +kernel
theorem dX4_init_9 : decode cX4_init 9 = .ok (.invokespecial 11, 3) := by decide +kernel
theorem dX4_init_12 : decode cX4_init 12 = .ok (.putfield 12, 3) := by decide +kernel
theorem dX4_init_15 : decode cX4_init 15 = .ok (.aload_n 0, 1) := by decide +kernel
theorem dX4_init_16 : decode cX4_init 16 = .ok (.iconst 5, 1) := by decide +kernel
theorem dX4_init_17 : decode cX4_init 17 = .ok (.newarray .int, 2) := by decide +kernel
theorem dX4_init_19 : decode cX4_init 19 = .ok (.putfield 18, 3) := by decide +kernel
theorem dX4_init_22 : decode cX4_init 22 = .ok (.aload_n 0, 1) := by decide +kernel
theorem dX4_init_23 : decode cX4_init 23 = .ok (.sipush 600, 3) := by decide +kernel
theorem dX4_init_26 : decode cX4_init 26 = .ok (.newarray .int, 2) := by decide +kernel
theorem dX4_init_28 : decode cX4_init 28 = .ok (.putfield 22, 3) := by decide +kernel
theorem dX4_init_31 : decode cX4_init 31 = .ok (.getstatic 25, 3) := by decide +kernel
theorem dX4_init_34 : decode cX4_init 34 = .ok (.iconst 0, 1) := by decide +kernel
theorem dX4_init_35 : decode cX4_init 35 = .ok (.aload_n 0, 1) := by decide +kernel
theorem dX4_init_36 : decode cX4_init 36 = .ok (.getfield 18, 3) := by decide +kernel
theorem dX4_init_39 : decode cX4_init 39 = .ok (.iconst 0, 1) := by decide +kernel
theorem dX4_init_40 : decode cX4_init 40 = .ok (.iconst 5, 1) := by decide +kernel
theorem dX4_init_41 : decode cX4_init 41 = .ok (.invokestatic 28, 3) := by decide +kernel
theorem dX4_init_44 : decode cX4_init 44 = .ok (.iconst 0, 1) := by decide +kernel
theorem dX4_init_45 : decode cX4_init 45 = .ok (.istore_n 1, 1) := by decide +kernel
theorem dX4_init_46 : decode cX4_init 46 = .ok (.iload_n 1, 1) := by decide +kernel
theorem dX4_init_47 : decode cX4_init 47 = .ok (.sipush 600, 3) := by decide +kernel
theorem dX4_init_50 : decode cX4_init 50 = .ok (.if_icmp .ge 16, 3) := by decide +kernel
theorem dX4_init_53 : decode cX4_init 53 = .ok (.aload_n 0, 1) := by decide +kernel
theorem dX4_init_54 : decode cX4_init 54 = .ok (.getfield 22, 3) := by decide +kernel
theorem dX4_init_57 : decode cX4_init 57 = .ok (.iload_n 1, 1) := by decide +kernel
theorem dX4_init_58 : decode cX4_init 58 = .ok (.iconst (-1), 1) := by decide +kernel
theorem dX4_init_59 : decode cX4_init 59 = .ok (.iastore, 1) := by decide +kernel
theorem dX4_init_60 : decode cX4_init 60 = .ok (.iinc 1 1, 3) := by decide +kernel
theorem dX4_init_63 : decode cX4_init 63 = .ok (.goto (-17), 3) := by decide +kernel
theorem dX4_init_66 : decode cX4_init 66 = .ok (.return_, 1) := by decide +kernel
theorem dX4_copyFrom_0 : decode cX4_copyFrom 0 = .ok (.aload_n 0, 1) := by decide +kernel
theorem dX4_copyFrom_1 : decode cX4_copyFrom 1 = .ok (.getfield 12, 3) := by decide +kernel
theorem dX4_copyFrom_4 : decode cX4_copyFrom 4 = .ok (.aload_n 1, 1) := by decide +kernel
theorem dX4_copyFrom_5 : decode cX4_copyFrom 5 = .ok (.getfield 12, 3) := by decide +kernel
theorem dX4_copyFrom_8 : decode cX4_copyFrom 8 = .ok (.invokevirtual 34, 3) := by decide +kernel
theorem dX4_copyFrom_11 : decode cX4_copyFrom 11 = .ok (.aload_n 1, 1) := by decide +kernel
theorem dX4_copyFrom_12 : decode cX4_copyFrom 12 = .ok (.getfield 18, 3) := by decide +kernel
theorem dX4_copyFrom_15 : decode cX4_copyFrom 15 = .ok (.iconst 0, 1) := by decide +kernel
theorem dX4_copyFrom_16 : decode cX4_copyFrom 16 = .ok (.aload_n 0, 1) := by decide +kernel
theorem dX4_copyFrom_17 : decode cX4_copyFrom 17 = .ok (.getfield 18, 3) := by decide +kernel
theorem dX4_copyFrom_20 : decode cX4_copyFrom 20 = .ok (.iconst 0, 1) := by decide +kernel
theorem dX4_copyFrom_21 : decode cX4_copyFrom 21 = .ok (.iconst 5, 1) := by decide +kernel
theorem dX4_copyFrom_22 : decode cX4_copyFrom 22 = .ok (.invokestatic 28, 3) := by decide +kernel
theorem dX4_copyFrom_25 : decode cX4_copyFrom 25 = .ok (.aload_n 1, 1) := by decide +kernel
theorem dX4_copyFrom_26 : decode cX4_copyFrom 26 = .ok (.getfield 22, 3) := by decide +kernel
theorem dX4_copyFrom_29 : decode cX4_copyFrom 29 = .ok (.iconst 0, 1) := by decide +kernel
theorem dX4_copyFrom_30 : decode cX4_copyFrom 30 = .ok (.aload_n 0, 1) := by decide +kernel
theorem dX4_copyFrom_31 : decode cX4_copyFrom 31 = .ok (.getfield 22, 3) := by decide +kernel
theorem dX4_copyFrom_34 : decode cX4_copyFrom 34 = .ok (.iconst 0, 1) := by decide +kernel
theorem dX4_copyFrom_35 : decode cX4_copyFrom 35 = .ok (.sipush 600, 3) := by decide +kernel
theorem dX4_copyFrom_38 : decode cX4_copyFrom 38 = .ok (.invokestatic 28, 3) := by decide +kernel
theorem dX4_copyFrom_41 : decode cX4_copyFrom 41 = .ok (.return_, 1) := by decide +kernel
theorem dX4_setting_0 : decode cX4_setting 0 = .ok (.iload_n 1, 1) := by decide +kernel
theorem dX4_setting_1 : decode cX4_setting 1 = .ok (.ifCond .lt 17, 3) := by decide +kernel
theorem dX4_setting_4 : decode cX4_setting 4 = .ok (.iload_n 1, 1) := by decide +kernel
theorem dX4_setting_5 : decode cX4_setting 5 = .ok (.iconst 5, 1) := by decide +kernel
theorem dX4_setting_6 : decode cX4_setting 6 = .ok (.if_icmp .ge 12, 3) := by decide +kernel
theorem dX4_setting_9 : decode cX4_setting 9 = .ok (.aload_n 0, 1) := by decide +kernel
theorem dX4_setting_10 : decode cX4_setting 10 = .ok (.getfield 18, 3) := by decide +kernel
theorem dX4_setting_13 : decode cX4_setting 13 = .ok (.iload_n 1, 1) := by decide +kernel
theorem dX4_setting_14 : decode cX4_setting 14 = .ok (.iaload, 1) := by decide +kernel
theorem dX4_setting_15 : decode cX4_setting 15 = .ok (.goto 4, 3) := by decide +kernel
theorem dX4_setting_18 : decode cX4_setting 18 = .ok (.iconst 0, 1) := by decide +kernel
theorem dX4_setting_19 : decode cX4_setting 19 = .ok (.ireturn, 1) := by decide +kernel
theorem dX4_change_0 : decode cX4_change 0 = .ok (.iload_n 1, 1) := by decide +kernel
theorem dX4_change_1 : decode cX4_change 1 = .ok (.ifCond .lt 15, 3) := by decide +kernel
theorem dX4_change_4 : decode cX4_change 4 = .ok (.iload_n 1, 1) := by decide +kernel
theorem dX4_change_5 : decode cX4_change 5 = .ok (.iconst 5, 1) := by decide +kernel
theorem dX4_change_6 : decode cX4_change 6 = .ok (.if_icmp .ge 10, 3) := by decide +kernel
theorem dX4_change_9 : decode cX4_change 9 = .ok (.aload_n 0, 1) := by decide +kernel
theorem dX4_change_10 : decode cX4_change 10 = .ok (.getfield 18, 3) := by decide +kernel
theorem dX4_change_13 : decode cX4_change 13 = .ok (.iload_n 1, 1) := by decide +kernel
theorem dX4_change_14 : decode cX4_change 14 = .ok (.iload_n 2, 1) := by decide +kernel
theorem dX4_change_15 : decode cX4_change 15 = .ok (.iastore, 1) := by decide +kernel
theorem dX4_change_16 : decode cX4_change 16 = .ok (.return_, 1) := by decide +kernel
theorem dX4_sungAt_0 : decode cX4_sungAt 0 = .ok (.iload_n 1, 1) := by decide +kernel
theorem dX4_sungAt_1 : decode cX4_sungAt 1 = .ok (.ifCond .lt 19, 3) := by decide +kernel
theorem dX4_sungAt_4 : decode cX4_sungAt 4 = .ok (.iload_n 1, 1) := by decide +kernel
theorem dX4_sungAt_5 : decode cX4_sungAt 5 = .ok (.sipush 600, 3) := by decide +kernel
theorem dX4_sungAt_8 : decode cX4_sungAt 8 = .ok (.if_icmp .ge 12, 3) := by decide +kernel
theorem dX4_sungAt_11 : decode cX4_sungAt 11 = .ok (.aload_n 0, 1) := by decide +kernel
theorem dX4_sungAt_12 : decode cX4_sungAt 12 = .ok (.getfield 22, 3) := by decide +kernel
theorem dX4_sungAt_15 : decode cX4_sungAt 15 = .ok (.iload_n 1, 1) := by decide +kernel
theorem dX4_sungAt_16 : decode cX4_sungAt 16 = .ok (.iaload, 1) := by decide +kernel
theorem dX4_sungAt_17 : decode cX4_sungAt 17 = .ok (.goto 4, 3) := by decide +kernel
theorem dX4_sungAt_20 : decode cX4_sungAt 20 = .ok (.iconst (-1), 1) := by decide +kernel
theorem dX4_sungAt_21 : decode cX4_sungAt 21 = .ok (.ireturn, 1) := by decide +kernel
theorem dX4_voiceAt_0 : decode cX4_voiceAt 0 = .ok (.iload_n 1, 1) := by decide +kernel
theorem dX4_voiceAt_1 : decode cX4_voiceAt 1 = .ok (.ifCond .lt 31, 3) := by decide +kernel
theorem dX4_voiceAt_4 : decode cX4_voiceAt 4 = .ok (.iload_n 1, 1) := by decide +kernel
theorem dX4_voiceAt_5 : decode cX4_voiceAt 5 = .ok (.sipush 600, 3) := by decide +kernel
theorem dX4_voiceAt_8 : decode cX4_voiceAt 8 = .ok (.if_icmp .ge 24, 3) := by decide +kernel
theorem dX4_voiceAt_11 : decode cX4_voiceAt 11 = .ok (.aload_n 0, 1) := by decide +kernel
theorem dX4_voiceAt_12 : decode cX4_voiceAt 12 = .ok (.getfield 22, 3) := by decide +kernel
theorem dX4_voiceAt_15 : decode cX4_voiceAt 15 = .ok (.iload_n 1, 1) := by decide +kernel
theorem dX4_voiceAt_16 : decode cX4_voiceAt 16 = .ok (.iload_n 2, 1) := by decide +kernel
theorem dX4_voiceAt_17 : decode cX4_voiceAt 17 = .ok (.iconst 0, 1) := by decide +kernel
theorem dX4_voiceAt_18 : decode cX4_voiceAt 18 = .ok (.bipush 60, 2) := by decide +kernel
theorem dX4_voiceAt_20 : decode cX4_voiceAt 20 = .ok (.invokestatic 38, 3) := by decide +kernel
theorem dX4_voiceAt_23 : decode cX4_voiceAt 23 = .ok (.ifCond .eq 7, 3) := by decide +kernel
theorem dX4_voiceAt_26 : decode cX4_voiceAt 26 = .ok (.iload_n 2, 1) := by decide +kernel
theorem dX4_voiceAt_27 : decode cX4_voiceAt 27 = .ok (.goto 4, 3) := by decide +kernel
theorem dX4_voiceAt_30 : decode cX4_voiceAt 30 = .ok (.iconst (-1), 1) := by decide +kernel
theorem dX4_voiceAt_31 : decode cX4_voiceAt 31 = .ok (.iastore, 1) := by decide +kernel
theorem dX4_voiceAt_32 : decode cX4_voiceAt 32 = .ok (.return_, 1) := by decide +kernel
theorem dX4_voice_0 : decode cX4_voice 0 = .ok (.iconst 0, 1) := by decide +kernel
theorem dX4_voice_1 : decode cX4_voice 1 = .ok (.istore 4, 2) := by decide +kernel
theorem dX4_voice_3 : decode cX4_voice 3 = .ok (.iload 4, 2) := by decide +kernel
theorem dX4_voice_5 : decode cX4_voice 5 = .ok (.iload_n 2, 1) := by decide +kernel
theorem dX4_voice_6 : decode cX4_voice 6 = .ok (.if_icmp .ge 18, 3) := by decide +kernel
theorem dX4_voice_9 : decode cX4_voice 9 = .ok (.aload_n 0, 1) := by decide +kernel
theorem dX4_voice_10 : decode cX4_voice 10 = .ok (.iload_n 1, 1) := by decide +kernel
theorem dX4_voice_11 : decode cX4_voice 11 = .ok (.iload 4, 2) := by decide +kernel
theorem dX4_voice_13 : decode cX4_voice 13 = .ok (.iadd, 1) := by decide +kernel
theorem dX4_voice_14 : decode cX4_voice 14 = .ok (.iload_n 3, 1) := by decide +kernel
theorem dX4_voice_15 : decode cX4_voice 15 = .ok (.invokevirtual 42, 3) := by decide +kernel
theorem dX4_voice_18 : decode cX4_voice 18 = .ok (.iinc 4 1, 3) := by decide +kernel
theorem dX4_voice_21 : decode cX4_voice 21 = .ok (.goto (-18), 3) := by decide +kernel
theorem dX4_voice_24 : decode cX4_voice 24 = .ok (.return_, 1) := by decide +kernel
theorem dX4_voiceAsWanted_0 : decode cX4_voiceAsWanted 0 = .ok (.aload_n 0, 1) := by decide +kernel
theorem dX4_voiceAsWanted_1 : decode cX4_voiceAsWanted 1 = .ok (.getfield 12, 3) := by decide +kernel
theorem dX4_voiceAsWanted_4 : decode cX4_voiceAsWanted 4 = .ok (.iload_n 1, 1) := by decide +kernel
theorem dX4_voiceAsWanted_5 : decode cX4_voiceAsWanted 5 = .ok (.invokevirtual 46, 3) := by decide +kernel
theorem dX4_voiceAsWanted_8 : decode cX4_voiceAsWanted 8 = .ok (.istore_n 3, 1) := by decide +kernel
theorem dX4_voiceAsWanted_9 : decode cX4_voiceAsWanted 9 = .ok (.iconst 0, 1) := by decide +kernel
theorem dX4_voiceAsWanted_10 : decode cX4_voiceAsWanted 10 = .ok (.istore 4, 2) := by decide +kernel
theorem dX4_voiceAsWanted_12 : decode cX4_voiceAsWanted 12 = .ok (.iload 4, 2) := by decide +kernel
theorem dX4_voiceAsWanted_14 : decode cX4_voiceAsWanted 14 = .ok (.aload_n 0, 1) := by decide +kernel
theorem dX4_voiceAsWanted_15 : decode cX4_voiceAsWanted 15 = .ok (.getfield 12, 3) := by decide +kernel
theorem dX4_voiceAsWanted_18 : decode cX4_voiceAsWanted 18 = .ok (.iload_n 1, 1) := by decide +kernel
theorem dX4_voiceAsWanted_19 : decode cX4_voiceAsWanted 19 = .ok (.invokevirtual 50, 3) := by decide +kernel
theorem dX4_voiceAsWanted_22 : decode cX4_voiceAsWanted 22 = .ok (.if_icmp .ge 29, 3) := by decide +kernel
theorem dX4_voiceAsWanted_25 : decode cX4_voiceAsWanted 25 = .ok (.aload_n 0, 1) := by decide +kernel
theorem dX4_voiceAsWanted_26 : decode cX4_voiceAsWanted 26 = .ok (.iload_n 3, 1) := by decide +kernel
theorem dX4_voiceAsWanted_27 : decode cX4_voiceAsWanted 27 = .ok (.iload 4, 2) := by decide +kernel
theorem dX4_voiceAsWanted_29 : decode cX4_voiceAsWanted 29 = .ok (.iadd, 1) := by decide +kernel
theorem dX4_voiceAsWanted_30 : decode cX4_voiceAsWanted 30 = .ok (.aload_n 0, 1) := by decide +kernel
theorem dX4_voiceAsWanted_31 : decode cX4_voiceAsWanted 31 = .ok (.getfield 12, 3) := by decide +kernel
theorem dX4_voiceAsWanted_34 : decode cX4_voiceAsWanted 34 = .ok (.iload_n 1, 1) := by decide +kernel
theorem dX4_voiceAsWanted_35 : decode cX4_voiceAsWanted 35 = .ok (.iload 4, 2) := by decide +kernel
theorem dX4_voiceAsWanted_37 : decode cX4_voiceAsWanted 37 = .ok (.invokevirtual 53, 3) := by decide +kernel
theorem dX4_voiceAsWanted_40 : decode cX4_voiceAsWanted 40 = .ok (.iload_n 2, 1) := by decide +kernel
theorem dX4_voiceAsWanted_41 : decode cX4_voiceAsWanted 41 = .ok (.iadd, 1) := by decide +kernel
theorem dX4_voiceAsWanted_42 : decode cX4_voiceAsWanted 42 = .ok (.invokevirtual 42, 3) := by decide +kernel
theorem dX4_voiceAsWanted_45 : decode cX4_voiceAsWanted 45 = .ok (.iinc 4 1, 3) := by decide +kernel
theorem dX4_voiceAsWanted_48 : decode cX4_voiceAsWanted 48 = .ok (.goto (-36), 3) := by decide +kernel
theorem dX4_voiceAsWanted_51 : decode cX4_voiceAsWanted 51 = .ok (.return_, 1) := by decide +kernel
theorem dX4_voiceShifted_0 : decode cX4_voiceShifted 0 = .ok (.iconst 0, 1) := by decide +kernel
theorem dX4_voiceShifted_1 : decode cX4_voiceShifted 1 = .ok (.istore 4, 2) := by decide +kernel
theorem dX4_voiceShifted_3 : decode cX4_voiceShifted 3 = .ok (.iload 4, 2) := by decide +kernel
theorem dX4_voiceShifted_5 : decode cX4_voiceShifted 5 = .ok (.sipush 600, 3) := by decide +kernel
theorem dX4_voiceShifted_8 : decode cX4_voiceShifted 8 = .ok (.if_icmp .ge 39, 3) := by decide +kernel
theorem dX4_voiceShifted_11 : decode cX4_voiceShifted 11 = .ok (.aload_n 1, 1) := by decide +kernel
theorem dX4_voiceShifted_12 : decode cX4_voiceShifted 12 = .ok (.iload 4, 2) := by decide +kernel
theorem dX4_voiceShifted_14 : decode cX4_voiceShifted 14 = .ok (.iload_n 2, 1) := by decide +kernel
theorem dX4_voiceShifted_15 : decode cX4_voiceShifted 15 = .ok (.isub, 1) := by decide +kernel
theorem dX4_voiceShifted_16 : decode cX4_voiceShifted 16 = .ok (.invokevirtual 57, 3) := by decide +kernel
theorem dX4_voiceShifted_19 : decode cX4_voiceShifted 19 = .ok (.istore 5, 2) := by decide +kernel
theorem dX4_voiceShifted_21 : decode cX4_voiceShifted 21 = .ok (.aload_n 0, 1) := by decide +kernel
theorem dX4_voiceShifted_22 : decode cX4_voiceShifted 22 = .ok (.iload 4, 2) := by decide +kernel
theorem dX4_voiceShifted_24 : decode cX4_voiceShifted 24 = .ok (.iload 5, 2) := by decide +kernel
theorem dX4_voiceShifted_26 : decode cX4_voiceShifted 26 = .ok (.iconst (-1), 1) := by decide +kernel
theorem dX4_voiceShifted_27 : decode cX4_voiceShifted 27 = .ok (.if_icmp .ne 7, 3) := by decide +kernel
theorem dX4_voiceShifted_30 : decode cX4_voiceShifted 30 = .ok (.iconst (-1), 1) := by decide +kernel
theorem dX4_voiceShifted_31 : decode cX4_voiceShifted 31 = .ok (.goto 7, 3) := by decide +kernel
theorem dX4_voiceShifted_34 : decode cX4_voiceShifted 34 = .ok (.iload 5, 2) := by decide +kernel
theorem dX4_voiceShifted_36 : decode cX4_voiceShifted 36 = .ok (.iload_n 3, 1) := by decide +kernel
theorem dX4_voiceShifted_37 : decode cX4_voiceShifted 37 = .ok (.iadd, 1) := by decide +kernel
theorem dX4_voiceShifted_38 : decode cX4_voiceShifted 38 = .ok (.invokevirtual 42, 3) := by decide +kernel
theorem dX4_voiceShifted_41 : decode cX4_voiceShifted 41 = .ok (.iinc 4 1, 3) := by decide +kernel
theorem dX4_voiceShifted_44 : decode cX4_voiceShifted 44 = .ok (.goto (-41), 3) := by decide +kernel
theorem dX4_voiceShifted_47 : decode cX4_voiceShifted 47 = .ok (.return_, 1) := by decide +kernel
theorem dX4_soundingTicks_0 : decode cX4_soundingTicks 0 = .ok (.iconst 0, 1) := by decide +kernel
theorem dX4_soundingTicks_1 : decode cX4_soundingTicks 1 = .ok (.istore_n 1, 1) := by decide +kernel
theorem dX4_soundingTicks_2 : decode cX4_soundingTicks 2 = .ok (.iconst 0, 1) := by decide +kernel
theorem dX4_soundingTicks_3 : decode cX4_soundingTicks 3 = .ok (.istore_n 2, 1) := by decide +kernel
theorem dX4_soundingTicks_4 : decode cX4_soundingTicks 4 = .ok (.iload_n 2, 1) := by decide +kernel
theorem dX4_soundingTicks_5 : decode cX4_soundingTicks 5 = .ok (.sipush 600, 3) := by decide +kernel
theorem dX4_soundingTicks_8 : decode cX4_soundingTicks 8 = .ok (.if_icmp .ge 21, 3) := by decide +kernel
theorem dX4_soundingTicks_11 : decode cX4_soundingTicks 11 = .ok (.aload_n 0, 1) := by decide +kernel
theorem dX4_soundingTicks_12 : decode cX4_soundingTicks 12 = .ok (.iload_n 2, 1) := by decide +kernel
theorem dX4_soundingTicks_13 : decode cX4_soundingTicks 13 = .ok (.invokevirtual 57, 3) := by decide +kernel
theorem dX4_soundingTicks_16 : decode cX4_soundingTicks 16 = .ok (.iconst (-1), 1) := by decide +kernel
theorem dX4_soundingTicks_17 : decode cX4_soundingTicks 17 = .ok (.if_icmp .eq 6, 3) := by decide +kernel
theorem dX4_soundingTicks_20 : decode cX4_soundingTicks 20 = .ok (.iinc 1 1, 3) := by decide +kernel
theorem dX4_soundingTicks_23 : decode cX4_soundingTicks 23 = .ok (.iinc 2 1, 3) := by decide +kernel
theorem dX4_soundingTicks_26 : decode cX4_soundingTicks 26 = .ok (.goto (-22), 3) := by decide +kernel
theorem dX4_soundingTicks_29 : decode cX4_soundingTicks 29 = .ok (.iload_n 1, 1) := by decide +kernel
theorem dX4_soundingTicks_30 : decode cX4_soundingTicks 30 = .ok (.ireturn, 1) := by decide +kernel
theorem dX4_isOnset_0 : decode cX4_isOnset 0 = .ok (.aload_n 0, 1) := by decide +kernel
theorem dX4_isOnset_1 : decode cX4_isOnset 1 = .ok (.iload_n 1, 1) := by decide +kernel
theorem dX4_isOnset_2 : decode cX4_isOnset 2 = .ok (.invokevirtual 57, 3) := by decide +kernel
theorem dX4_isOnset_5 : decode cX4_isOnset 5 = .ok (.iconst (-1), 1) := by decide +kernel
theorem dX4_isOnset_6 : decode cX4_isOnset 6 = .ok (.if_icmp .eq 22, 3) := by decide +kernel
theorem dX4_isOnset_9 : decode cX4_isOnset 9 = .ok (.aload_n 0, 1) := by decide +kernel
theorem dX4_isOnset_10 : decode cX4_isOnset 10 = .ok (.iload_n 1, 1) := by decide +kernel
theorem dX4_isOnset_11 : decode cX4_isOnset 11 = .ok (.invokevirtual 57, 3) := by decide +kernel
theorem dX4_isOnset_14 : decode cX4_isOnset 14 = .ok (.aload_n 0, 1) := by decide +kernel
theorem dX4_isOnset_15 : decode cX4_isOnset 15 = .ok (.iload_n 1, 1) := by decide +kernel
theorem dX4_isOnset_16 : decode cX4_isOnset 16 = .ok (.iconst 1, 1) := by decide +kernel
theorem dX4_isOnset_17 : decode cX4_isOnset 17 = .ok (.isub, 1) := by decide +kernel
theorem dX4_isOnset_18 : decode cX4_isOnset 18 = .ok (.invokevirtual 57, 3) := by decide +kernel
theorem dX4_isOnset_21 : decode cX4_isOnset 21 = .ok (.if_icmp .eq 7, 3) := by decide +kernel
theorem dX4_isOnset_24 : decode cX4_isOnset 24 = .ok (.iconst 1, 1) := by decide +kernel
theorem dX4_isOnset_25 : decode cX4_isOnset 25 = .ok (.goto 4, 3) := by decide +kernel
theorem dX4_isOnset_28 : decode cX4_isOnset 28 = .ok (.iconst 0, 1) := by decide +kernel
theorem dX4_isOnset_29 : decode cX4_isOnset 29 = .ok (.ireturn, 1) := by decide +kernel
theorem dX4_onsets_0 : decode cX4_onsets 0 = .ok (.iconst 0, 1) := by decide +kernel
theorem dX4_onsets_1 : decode cX4_onsets 1 = .ok (.istore_n 1, 1) := by decide +kernel
theorem dX4_onsets_2 : decode cX4_onsets 2 = .ok (.iconst 0, 1) := by decide +kernel
theorem dX4_onsets_3 : decode cX4_onsets 3 = .ok (.istore_n 2, 1) := by decide +kernel
theorem dX4_onsets_4 : decode cX4_onsets 4 = .ok (.iload_n 2, 1) := by decide +kernel
theorem dX4_onsets_5 : decode cX4_onsets 5 = .ok (.sipush 600, 3) := by decide +kernel
theorem dX4_onsets_8 : decode cX4_onsets 8 = .ok (.if_icmp .ge 20, 3) := by decide +kernel
theorem dX4_onsets_11 : decode cX4_onsets 11 = .ok (.aload_n 0, 1) := by decide +kernel
theorem dX4_onsets_12 : decode cX4_onsets 12 = .ok (.iload_n 2, 1) := by decide +kernel
theorem dX4_onsets_13 : decode cX4_onsets 13 = .ok (.invokevirtual 60, 3) := by decide +kernel
theorem dX4_onsets_16 : decode cX4_onsets 16 = .ok (.ifCond .eq 6, 3) := by decide +kernel
theorem dX4_onsets_19 : decode cX4_onsets 19 = .ok (.iinc 1 1, 3) := by decide +kernel
theorem dX4_onsets_22 : decode cX4_onsets 22 = .ok (.iinc 2 1, 3) := by decide +kernel
theorem dX4_onsets_25 : decode cX4_onsets 25 = .ok (.goto (-21), 3) := by decide +kernel
theorem dX4_onsets_28 : decode cX4_onsets 28 = .ok (.iload_n 1, 1) := by decide +kernel
theorem dX4_onsets_29 : decode cX4_onsets 29 = .ok (.ireturn, 1) := by decide +kernel
theorem dX4_onsetNear_0 : decode cX4_onsetNear 0 = .ok (.aload_n 0, 1) := by decide +kernel
theorem dX4_onsetNear_1 : decode cX4_onsetNear 1 = .ok (.iconst 2, 1) := by decide +kernel
theorem dX4_onsetNear_2 : decode cX4_onsetNear 2 = .ok (.invokevirtual 64, 3) := by decide +kernel
theorem dX4_onsetNear_5 : decode cX4_onsetNear 5 = .ok (.istore_n 2, 1) := by decide +kernel
theorem dX4_onsetNear_6 : decode cX4_onsetNear 6 = .ok (.iconst 0, 1) := by decide +kernel
theorem dX4_onsetNear_7 : decode cX4_onsetNear 7 = .ok (.istore_n 3, 1) := by decide +kernel
theorem dX4_onsetNear_8 : decode cX4_onsetNear 8 = .ok (.iload_n 3, 1) := by decide +kernel
theorem dX4_onsetNear_9 : decode cX4_onsetNear 9 = .ok (.iload_n 2, 1) := by decide +kernel
theorem dX4_onsetNear_10 : decode cX4_onsetNear 10 = .ok (.if_icmp .gt 37, 3) := by decide +kernel
theorem dX4_onsetNear_13 : decode cX4_onsetNear 13 = .ok (.aload_n 0, 1) := by decide +kernel
theorem dX4_onsetNear_14 : decode cX4_onsetNear 14 = .ok (.iload_n 1, 1) := by decide +kernel
theorem dX4_onsetNear_15 : decode cX4_onsetNear 15 = .ok (.iload_n 3, 1) := by decide +kernel
theorem dX4_onsetNear_16 : decode cX4_onsetNear 16 = .ok (.isub, 1) := by decide +kernel
theorem dX4_onsetNear_17 : decode cX4_onsetNear 17 = .ok (.invokevirtual 60, 3) := by decide +kernel
theorem dX4_onsetNear_20 : decode cX4_onsetNear 20 = .ok (.ifCond .eq 7, 3) := by decide +kernel
theorem dX4_onsetNear_23 : decode cX4_onsetNear 23 = .ok (.iload_n 1, 1) := by decide +kernel
theorem dX4_onsetNear_24 : decode cX4_onsetNear 24 = .ok (.iload_n 3, 1) := by decide +kernel
theorem dX4_onsetNear_25 : decode cX4_onsetNear 25 = .ok (.isub, 1) := by decide +kernel
theorem dX4_onsetNear_26 : decode cX4_onsetNear 26 = .ok (.ireturn, 1) := by decide +kernel
theorem dX4_onsetNear_27 : decode cX4_onsetNear 27 = .ok (.aload_n 0, 1) := by decide +kernel
theorem dX4_onsetNear_28 : decode cX4_onsetNear 28 = .ok (.iload_n 1, 1) := by decide +kernel
theorem dX4_onsetNear_29 : decode cX4_onsetNear 29 = .ok (.iload_n 3, 1) := by decide +kernel
theorem dX4_onsetNear_30 : decode cX4_onsetNear 30 = .ok (.iadd, 1) := by decide +kernel
theorem dX4_onsetNear_31 : decode cX4_onsetNear 31 = .ok (.invokevirtual 60, 3) := by decide +kernel
theorem dX4_onsetNear_34 : decode cX4_onsetNear 34 = .ok (.ifCond .eq 7, 3) := by decide +kernel
theorem dX4_onsetNear_37 : decode cX4_onsetNear 37 = .ok (.iload_n 1, 1) := by decide +kernel
theorem dX4_onsetNear_38 : decode cX4_onsetNear 38 = .ok (.iload_n 3, 1) := by decide +kernel
theorem dX4_onsetNear_39 : decode cX4_onsetNear 39 = .ok (.iadd, 1) := by decide +kernel
theorem dX4_onsetNear_40 : decode cX4_onsetNear 40 = .ok (.ireturn, 1) := by decide +kernel
theorem dX4_onsetNear_41 : decode cX4_onsetNear 41 = .ok (.iinc 3 1, 3) := by decide +kernel
theorem dX4_onsetNear_44 : decode cX4_onsetNear 44 = .ok (.goto (-36), 3) := by decide +kernel
theorem dX4_onsetNear_47 : decode cX4_onsetNear 47 = .ok (.bipush (-5), 2) := by decide +kernel
theorem dX4_onsetNear_49 : decode cX4_onsetNear 49 = .ok (.ireturn, 1) := by decide +kernel
theorem dX4_isMatch_0 : decode cX4_isMatch 0 = .ok (.iload_n 1, 1) := by decide +kernel
theorem dX4_isMatch_1 : decode cX4_isMatch 1 = .ok (.iconst (-1), 1) := by decide +kernel
theorem dX4_isMatch_2 : decode cX4_isMatch 2 = .ok (.if_icmp .ne 5, 3) := by decide +kernel
theorem dX4_isMatch_5 : decode cX4_isMatch 5 = .ok (.iconst 0, 1) := by decide +kernel
theorem dX4_isMatch_6 : decode cX4_isMatch 6 = .ok (.ireturn, 1) := by decide +kernel
theorem dX4_isMatch_7 : decode cX4_isMatch 7 = .ok (.iload_n 1, 1) := by decide +kernel
theorem dX4_isMatch_8 : decode cX4_isMatch 8 = .ok (.iload_n 2, 1) := by decide +kernel
theorem dX4_isMatch_9 : decode cX4_isMatch 9 = .ok (.isub, 1) := by decide +kernel
theorem dX4_isMatch_10 : decode cX4_isMatch 10 = .ok (.invokestatic 67, 3) := by decide +kernel
theorem dX4_isMatch_13 : decode cX4_isMatch 13 = .ok (.istore_n 3, 1) := by decide +kernel
theorem dX4_isMatch_14 : decode cX4_isMatch 14 = .ok (.aload_n 0, 1) := by decide +kernel
theorem dX4_isMatch_15 : decode cX4_isMatch 15 = .ok (.iconst 3, 1) := by decide +kernel
theorem dX4_isMatch_16 : decode cX4_isMatch 16 = .ok (.invokevirtual 64, 3) := by decide +kernel
theorem dX4_isMatch_19 : decode cX4_isMatch 19 = .ok (.iconst 1, 1) := by decide +kernel
theorem dX4_isMatch_20 : decode cX4_isMatch 20 = .ok (.if_icmp .ne 20, 3) := by decide +kernel
theorem dX4_isMatch_23 : decode cX4_isMatch 23 = .ok (.iload_n 3, 1) := by decide +kernel
theorem dX4_isMatch_24 : decode cX4_isMatch 24 = .ok (.bipush 12, 2) := by decide +kernel
theorem dX4_isMatch_26 : decode cX4_isMatch 26 = .ok (.irem, 1) := by decide +kernel
theorem dX4_isMatch_27 : decode cX4_isMatch 27 = .ok (.istore 4, 2) := by decide +kernel
theorem dX4_isMatch_29 : decode cX4_isMatch 29 = .ok (.iload 4, 2) := by decide +kernel
theorem dX4_isMatch_31 : decode cX4_isMatch 31 = .ok (.bipush 12, 2) := by decide +kernel
theorem dX4_isMatch_33 : decode cX4_isMatch 33 = .ok (.iload 4, 2) := by decide +kernel
theorem dX4_isMatch_35 : decode cX4_isMatch 35 = .ok (.isub, 1) := by decide +kernel
theorem dX4_isMatch_36 : decode cX4_isMatch 36 = .ok (.invokestatic 72, 3) := by decide +kernel
theorem dX4_isMatch_39 : decode cX4_isMatch 39 = .ok (.istore_n 3, 1) := by decide +kernel
theorem dX4_isMatch_40 : decode cX4_isMatch 40 = .ok (.iload_n 3, 1) := by decide +kernel
theorem dX4_isMatch_41 : decode cX4_isMatch 41 = .ok (.aload_n 0, 1) := by decide +kernel
theorem dX4_isMatch_42 : decode cX4_isMatch 42 = .ok (.iconst 1, 1) := by decide +kernel
theorem dX4_isMatch_43 : decode cX4_isMatch 43 = .ok (.invokevirtual 64, 3) := by decide +kernel
theorem dX4_isMatch_46 : decode cX4_isMatch 46 = .ok (.if_icmp .gt 7, 3) := by decide +kernel
theorem dX4_isMatch_49 : decode cX4_isMatch 49 = .ok (.iconst 1, 1) := by decide +kernel
theorem dX4_isMatch_50 : decode cX4_isMatch 50 = .ok (.goto 4, 3) := by decide +kernel
theorem dX4_isMatch_53 : decode cX4_isMatch 53 = .ok (.iconst 0, 1) := by decide +kernel
theorem dX4_isMatch_54 : decode cX4_isMatch 54 = .ok (.ireturn, 1) := by decide +kernel
theorem dX5_init_0 : decode cX5_init 0 = .ok (.aload_n 0, 1) := by decide +kernel
theorem dX5_init_1 : decode cX5_init 1 = .ok (.invokespecial 3, 3) := by decide +kernel
theorem dX5_init_4 : decode cX5_init 4 = .ok (.aload_n 0, 1) := by decide +kernel
theorem dX5_init_5 : decode cX5_init 5 = .ok (.bipush 60, 2) := by decide +kernel
theorem dX5_init_7 : decode cX5_init 7 = .ok (.newarray .char, 2) := by decide +kernel
theorem dX5_init_9 : decode cX5_init 9 = .ok (.putfield 9, 3) := by decide +kernel
theorem dX5_init_12 : decode cX5_init 12 = .ok (.aload_n 0, 1) := by decide +kernel
theorem dX5_init_13 : decode cX5_init 13 = .ok (.iconst 0, 1) := by decide +kernel
theorem dX5_init_14 : decode cX5_init 14 = .ok (.putfield 15, 3) := by decide +kernel
theorem dX5_init_17 : decode cX5_init 17 = .ok (.return_, 1) := by decide +kernel
theorem dX5_size_0 : decode cX5_size 0 = .ok (.aload_n 0, 1) := by decide +kernel
theorem dX5_size_1 : decode cX5_size 1 = .ok (.getfield 15, 3) := by decide +kernel
theorem dX5_size_4 : decode cX5_size 4 = .ok (.ireturn, 1) := by decide +kernel
theorem dX5_isFull_0 : decode cX5_isFull 0 = .ok (.aload_n 0, 1) := by decide +kernel
theorem dX5_isFull_1 : decode cX5_isFull 1 = .ok (.getfield 15, 3) := by decide +kernel
theorem dX5_isFull_4 : decode cX5_isFull 4 = .ok (.bipush 60, 2) := by decide +kernel
theorem dX5_isFull_6 : decode cX5_isFull 6 = .ok (.if_icmp .lt 7, 3) := by decide +kernel
theorem dX5_isFull_9 : decode cX5_isFull 9 = .ok (.iconst 1, 1) := by decide +kernel
theorem dX5_isFull_10 : decode cX5_isFull 10 = .ok (.goto 4, 3) := by decide +kernel
theorem dX5_isFull_13 : decode cX5_isFull 13 = .ok (.iconst 0, 1) := by decide +kernel
theorem dX5_isFull_14 : decode cX5_isFull 14 = .ok (.ireturn, 1) := by decide +kernel
theorem dX5_append_0 : decode cX5_append 0 = .ok (.aload_n 0, 1) := by decide +kernel
theorem dX5_append_1 : decode cX5_append 1 = .ok (.getfield 15, 3) := by decide +kernel
theorem dX5_append_4 : decode cX5_append 4 = .ok (.iconst 0, 1) := by decide +kernel
theorem dX5_append_5 : decode cX5_append 5 = .ok (.bipush 59, 2) := by decide +kernel
theorem dX5_append_7 : decode cX5_append 7 = .ok (.invokestatic 19, 3) := by decide +kernel
theorem dX5_append_10 : decode cX5_append 10 = .ok (.ifCond .eq 23, 3) := by decide +kernel
theorem dX5_append_13 : decode cX5_append 13 = .ok (.aload_n 0, 1) := by decide +kernel
theorem dX5_append_14 : decode cX5_append 14 = .ok (.getfield 9, 3) := by decide +kernel
theorem dX5_append_17 : decode cX5_append 17 = .ok (.aload_n 0, 1) := by decide +kernel
theorem dX5_append_18 : decode cX5_append 18 = .ok (.getfield 15, 3) := by decide +kernel
theorem dX5_append_21 : decode cX5_append 21 = .ok (.iload_n 1, 1) := by decide +kernel
theorem dX5_append_22 : decode cX5_append 22 = .ok (.castore, 1) := by decide +kernel
theorem dX5_append_23 : decode cX5_append 23 = .ok (.aload_n 0, 1) := by decide +kernel
theorem dX5_append_24 : decode cX5_append 24 = .ok (.dup, 1) := by decide +kernel
theorem dX5_append_25 : decode cX5_append 25 = .ok (.getfield 15, 3) := by decide +kernel
theorem dX5_append_28 : decode cX5_append 28 = .ok (.iconst 1, 1) := by decide +kernel
theorem dX5_append_29 : decode cX5_append 29 = .ok (.iadd, 1) := by decide +kernel
theorem dX5_append_30 : decode cX5_append 30 = .ok (.putfield 15, 3) := by decide +kernel
theorem dX5_append_33 : decode cX5_append 33 = .ok (.aload_n 0, 1) := by decide +kernel
theorem dX5_append_34 : decode cX5_append 34 = .ok (.getfield 15, 3) := by decide +kernel
theorem dX5_append_37 : decode cX5_append 37 = .ok (.ireturn, 1) := by decide +kernel
theorem dX5_empty_0 : decode cX5_empty 0 = .ok (.aload_n 0, 1) := by decide +kernel
theorem dX5_empty_1 : decode cX5_empty 1 = .ok (.getfield 15, 3) := by decide +kernel
theorem dX5_empty_4 : decode cX5_empty 4 = .ok (.istore_n 1, 1) := by decide +kernel
theorem dX5_empty_5 : decode cX5_empty 5 = .ok (.aload_n 0, 1) := by decide +kernel
theorem dX5_empty_6 : decode cX5_empty 6 = .ok (.iconst 0, 1) := by decide +kernel
theorem dX5_empty_7 : decode cX5_empty 7 = .ok (.putfield 15, 3) := by decide +kernel
theorem dX5_empty_10 : decode cX5_empty 10 = .ok (.iload_n 1, 1) := by decide +kernel
theorem dX5_empty_11 : decode cX5_empty 11 = .ok (.ireturn, 1) := by decide +kernel
theorem dX5_hasAt_0 : decode cX5_hasAt 0 = .ok (.iload_n 1, 1) := by decide +kernel
theorem dX5_hasAt_1 : decode cX5_hasAt 1 = .ok (.iconst 0, 1) := by decide +kernel
theorem dX5_hasAt_2 : decode cX5_hasAt 2 = .ok (.aload_n 0, 1) := by decide +kernel
theorem dX5_hasAt_3 : decode cX5_hasAt 3 = .ok (.getfield 15, 3) := by decide +kernel
theorem dX5_hasAt_6 : decode cX5_hasAt 6 = .ok (.iconst 1, 1) := by decide +kernel
theorem dX5_hasAt_7 : decode cX5_hasAt 7 = .ok (.isub, 1) := by decide +kernel
theorem dX5_hasAt_8 : decode cX5_hasAt 8 = .ok (.invokestatic 19, 3) := by decide +kernel
theorem dX5_hasAt_11 : decode cX5_hasAt 11 = .ok (.ifCond .eq 23, 3) := by decide +kernel
theorem dX5_hasAt_14 : decode cX5_hasAt 14 = .ok (.iload_n 1, 1) := by decide +kernel
theorem dX5_hasAt_15 : decode cX5_hasAt 15 = .ok (.bipush 60, 2) := by decide +kernel
theorem dX5_hasAt_17 : decode cX5_hasAt 17 = .ok (.if_icmp .ge 17, 3) := by decide +kernel
theorem dX5_hasAt_20 : decode cX5_hasAt 20 = .ok (.aload_n 0, 1) := by decide +kernel
theorem dX5_hasAt_21 : decode cX5_hasAt 21 = .ok (.getfield 9, 3) := by decide +kernel
theorem dX5_hasAt_24 : decode cX5_hasAt 24 = .ok (.iload_n 1, 1) := by decide +kernel
theorem dX5_hasAt_25 : decode cX5_hasAt 25 = .ok (.caload, 1) := by decide +kernel
theorem dX5_hasAt_26 : decode cX5_hasAt 26 = .ok (.iload_n 2, 1) := by decide +kernel
theorem dX5_hasAt_27 : decode cX5_hasAt 27 = .ok (.if_icmp .ne 7, 3) := by decide +kernel
theorem dX5_hasAt_30 : decode cX5_hasAt 30 = .ok (.iconst 1, 1) := by decide +kernel
theorem dX5_hasAt_31 : decode cX5_hasAt 31 = .ok (.goto 4, 3) := by decide +kernel
theorem dX5_hasAt_34 : decode cX5_hasAt 34 = .ok (.iconst 0, 1) := by decide +kernel
theorem dX5_hasAt_35 : decode cX5_hasAt 35 = .ok (.ireturn, 1) := by decide +kernel
theorem dX5_digitAt_0 : decode cX5_digitAt 0 = .ok (.iload_n 1, 1) := by decide +kernel
theorem dX5_digitAt_1 : decode cX5_digitAt 1 = .ok (.iconst 0, 1) := by decide +kernel
theorem dX5_digitAt_2 : decode cX5_digitAt 2 = .ok (.aload_n 0, 1) := by decide +kernel
theorem dX5_digitAt_3 : decode cX5_digitAt 3 = .ok (.getfield 15, 3) := by decide +kernel
theorem dX5_digitAt_6 : decode cX5_digitAt 6 = .ok (.iconst 1, 1) := by decide +kernel
theorem dX5_digitAt_7 : decode cX5_digitAt 7 = .ok (.isub, 1) := by decide +kernel
theorem dX5_digitAt_8 : decode cX5_digitAt 8 = .ok (.invokestatic 19, 3) := by decide +kernel
theorem dX5_digitAt_11 : decode cX5_digitAt 11 = .ok (.ifCond .eq 9, 3) := by decide +kernel
theorem dX5_digitAt_14 : decode cX5_digitAt 14 = .ok (.iload_n 1, 1) := by decide +kernel
theorem dX5_digitAt_15 : decode cX5_digitAt 15 = .ok (.bipush 60, 2) := by decide +kernel
theorem dX5_digitAt_17 : decode cX5_digitAt 17 = .ok (.if_icmp .lt 5, 3) := by decide +kernel
theorem dX5_digitAt_20 : decode cX5_digitAt 20 = .ok (.iconst (-1), 1) := by decide +kernel
theorem dX5_digitAt_21 : decode cX5_digitAt 21 = .ok (.ireturn, 1) := by decide +kernel
theorem dX5_digitAt_22 : decode cX5_digitAt 22 = .ok (.aload_n 0, 1) := by decide +kernel
theorem dX5_digitAt_23 : decode cX5_digitAt 23 = .ok (.getfield 9, 3) := by decide +kernel
theorem dX5_digitAt_26 : decode cX5_digitAt 26 = .ok (.iload_n 1, 1) := by decide +kernel
theorem dX5_digitAt_27 : decode cX5_digitAt 27 = .ok (.caload, 1) := by decide +kernel
theorem dX5_digitAt_28 : decode cX5_digitAt 28 = .ok (.istore_n 2, 1) := by decide +kernel
theorem dX5_digitAt_29 : decode cX5_digitAt 29 = .ok (.iload_n 2, 1) := by decide +kernel
theorem dX5_digitAt_30 : decode cX5_digitAt 30 = .ok (.bipush 48, 2) := by decide +kernel
theorem dX5_digitAt_32 : decode cX5_digitAt 32 = .ok (.if_icmp .lt 16, 3) := by decide +kernel
theorem dX5_digitAt_35 : decode cX5_digitAt 35 = .ok (.iload_n 2, 1) := by decide +kernel
theorem dX5_digitAt_36 : decode cX5_digitAt 36 = .ok (.bipush 57, 2) := by decide +kernel
theorem dX5_digitAt_38 : decode cX5_digitAt 38 = .ok (.if_icmp .gt 10, 3) := by decide +kernel
theorem dX5_digitAt_41 : decode cX5_digitAt 41 = .ok (.iload_n 2, 1) := by decide +kernel
theorem dX5_digitAt_42 : decode cX5_digitAt 42 = .ok (.bipush 48, 2) := by decide +kernel
theorem dX5_digitAt_44 : decode cX5_digitAt 44 = .ok (.isub, 1) := by decide +kernel
theorem dX5_digitAt_45 : decode cX5_digitAt 45 = .ok (.goto 4, 3) := by decide +kernel
theorem dX5_digitAt_48 : decode cX5_digitAt 48 = .ok (.iconst (-1), 1) := by decide +kernel
theorem dX5_digitAt_49 : decode cX5_digitAt 49 = .ok (.ireturn, 1) := by decide +kernel
theorem dX6_init_0 : decode cX6_init 0 = .ok (.aload_n 0, 1) := by decide +kernel
theorem dX6_init_1 : decode cX6_init 1 = .ok (.invokespecial 1, 3) := by decide +kernel
theorem dX6_init_4 : decode cX6_init 4 = .ok (.aload_n 0, 1) := by decide +kernel
theorem dX6_init_5 : decode cX6_init 5 = .ok (.new 7, 3) := by decide +kernel
theorem dX6_init_8 : decode cX6_init 8 = .ok (.dup, 1) := by decide +kernel
theorem dX6_init_9 : decode cX6_init 9 = .ok (.invokespecial 9, 3) := by decide +kernel
theorem dX6_init_12 : decode cX6_init 12 = .ok (.putfield 10, 3) := by decide +kernel
theorem dX6_init_15 : decode cX6_init 15 = .ok (.aload_n 0, 1) := by decide +kernel
theorem dX6_init_16 : decode cX6_init 16 = .ok (.new 7, 3) := by decide +kernel
theorem dX6_init_19 : decode cX6_init 19 = .ok (.dup, 1) := by decide +kernel
theorem dX6_init_20 : decode cX6_init 20 = .ok (.invokespecial 9, 3) := by decide +kernel
theorem dX6_init_23 : decode cX6_init 23 = .ok (.putfield 16, 3) := by decide +kernel
theorem dX6_init_26 : decode cX6_init 26 = .ok (.aload_n 0, 1) := by decide +kernel
theorem dX6_init_27 : decode cX6_init 27 = .ok (.new 7, 3) := by decide +kernel
theorem dX6_init_30 : decode cX6_init 30 = .ok (.dup, 1) := by decide +kernel
theorem dX6_init_31 : decode cX6_init 31 = .ok (.invokespecial 9, 3) := by decide +kernel
theorem dX6_init_34 : decode cX6_init 34 = .ok (.putfield 19, 3) := by decide +kernel
theorem dX6_init_37 : decode cX6_init 37 = .ok (.aload_n 0, 1) := by decide +kernel
theorem dX6_init_38 : decode cX6_init 38 = .ok (.iconst 0, 1) := by decide +kernel
theorem dX6_init_39 : decode cX6_init 39 = .ok (.putfield 22, 3) := by decide +kernel
theorem dX6_init_42 : decode cX6_init 42 = .ok (.aload_n 0, 1) := by decide +kernel
theorem dX6_init_43 : decode cX6_init 43 = .ok (.new 26, 3) := by decide +kernel
theorem dX6_init_46 : decode cX6_init 46 = .ok (.dup, 1) := by decide +kernel
theorem dX6_init_47 : decode cX6_init 47 = .ok (.invokespecial 28, 3) := by decide +kernel
theorem dX6_init_50 : decode cX6_init 50 = .ok (.putfield 29, 3) := by decide +kernel
theorem dX6_init_53 : decode cX6_init 53 = .ok (.aload_n 0, 1) := by decide +kernel
theorem dX6_init_54 : decode cX6_init 54 = .ok (.new 33, 3) := by decide +kernel
theorem dX6_init_57 : decode cX6_init 57 = .ok (.dup, 1) := by decide +kernel
theorem dX6_init_58 : decode cX6_init 58 = .ok (.invokespecial 35, 3) := by decide +kernel
theorem dX6_init_61 : decode cX6_init 61 = .ok (.putfield 36, 3) := by decide +kernel
theorem dX6_init_64 : decode cX6_init 64 = .ok (.aload_n 0, 1) := by decide +kernel
theorem dX6_init_65 : decode cX6_init 65 = .ok (.new 40, 3) := by decide +kernel
theorem dX6_init_68 : decode cX6_init 68 = .ok (.dup, 1) := by decide +kernel
theorem dX6_init_69 : decode cX6_init 69 = .ok (.invokespecial 42, 3) := by decide +kernel
theorem dX6_init_72 : decode cX6_init 72 = .ok (.putfield 43, 3) := by decide +kernel
theorem dX6_init_75 : decode cX6_init 75 = .ok (.aload_n 0, 1) := by decide +kernel
theorem dX6_init_76 : decode cX6_init 76 = .ok (.new 47, 3) := by decide +kernel
theorem dX6_init_79 : decode cX6_init 79 = .ok (.dup, 1) := by decide +kernel
theorem dX6_init_80 : decode cX6_init 80 = .ok (.invokespecial 49, 3) := by decide +kernel
theorem dX6_init_83 : decode cX6_init 83 = .ok (.putfield 50, 3) := by decide +kernel
theorem dX6_init_86 : decode cX6_init 86 = .ok (.return_, 1) := by decide +kernel
theorem dX6_add_0 : decode cX6_add 0 = .ok (.iload_n 1, 1) := by decide +kernel
theorem dX6_add_1 : decode cX6_add 1 = .ok (.iconst 0, 1) := by decide +kernel
theorem dX6_add_2 : decode cX6_add 2 = .ok (.bipush 32, 2) := by decide +kernel
theorem dX6_add_4 : decode cX6_add 4 = .ok (.invokestatic 54, 3) := by decide +kernel
theorem dX6_add_7 : decode cX6_add 7 = .ok (.ifCond .eq 14, 3) := by decide +kernel
theorem dX6_add_10 : decode cX6_add 10 = .ok (.iload 4, 2) := by decide +kernel
theorem dX6_add_12 : decode cX6_add 12 = .ok (.iconst 1, 1) := by decide +kernel
theorem dX6_add_13 : decode cX6_add 13 = .ok (.bipush 32, 2) := by decide +kernel
theorem dX6_add_15 : decode cX6_add 15 = .ok (.invokestatic 54, 3) := by decide +kernel
theorem dX6_add_18 : decode cX6_add 18 = .ok (.ifCond .ne 6, 3) := by decide +kernel
theorem dX6_add_21 : decode cX6_add 21 = .ok (.bipush (-2), 2) := by decide +kernel
theorem dX6_add_23 : decode cX6_add 23 = .ok (.ireturn, 1) := by decide +kernel
theorem dX6_add_24 : decode cX6_add 24 = .ok (.iload_n 2, 1) := by decide +kernel
theorem dX6_add_25 : decode cX6_add 25 = .ok (.iconst 0, 1) := by decide +kernel
theorem dX6_add_26 : decode cX6_add 26 = .ok (.bipush 60, 2) := by decide +kernel
theorem dX6_add_28 : decode cX6_add 28 = .ok (.invokestatic 54, 3) := by decide +kernel
theorem dX6_add_31 : decode cX6_add 31 = .ok (.ifCond .eq 13, 3) := by decide +kernel
theorem dX6_add_34 : decode cX6_add 34 = .ok (.iload_n 3, 1) := by decide +kernel
theorem dX6_add_35 : decode cX6_add 35 = .ok (.iconst 0, 1) := by decide +kernel
theorem dX6_add_36 : decode cX6_add 36 = .ok (.bipush 60, 2) := by decide +kernel
theorem dX6_add_38 : decode cX6_add 38 = .ok (.invokestatic 54, 3) := by decide +kernel
theorem dX6_add_41 : decode cX6_add 41 = .ok (.ifCond .ne 6, 3) := by decide +kernel
theorem dX6_add_44 : decode cX6_add 44 = .ok (.bipush (-2), 2) := by decide +kernel
theorem dX6_add_46 : decode cX6_add 46 = .ok (.ireturn, 1) := by decide +kernel
theorem dX6_add_47 : decode cX6_add 47 = .ok (.aload_n 0, 1) := by decide +kernel
theorem dX6_add_48 : decode cX6_add 48 = .ok (.getfield 10, 3) := by decide +kernel
theorem dX6_add_51 : decode cX6_add 51 = .ok (.getfield 58, 3) := by decide +kernel
theorem dX6_add_54 : decode cX6_add 54 = .ok (.iload_n 1, 1) := by decide +kernel
theorem dX6_add_55 : decode cX6_add 55 = .ok (.iload 4, 2) := by decide +kernel
theorem dX6_add_57 : decode cX6_add 57 = .ok (.invokevirtual 62, 3) := by decide +kernel
theorem dX6_add_60 : decode cX6_add 60 = .ok (.ifCond .ne 6, 3) := by decide +kernel
theorem dX6_add_63 : decode cX6_add 63 = .ok (.bipush (-3), 2) := by decide +kernel
theorem dX6_add_65 : decode cX6_add 65 = .ok (.ireturn, 1) := by decide +kernel
theorem dX6_add_66 : decode cX6_add 66 = .ok (.aload_n 0, 1) := by decide +kernel
theorem dX6_add_67 : decode cX6_add 67 = .ok (.getfield 29, 3) := by decide +kernel
theorem dX6_add_70 : decode cX6_add 70 = .ok (.aload_n 0, 1) := by decide +kernel
theorem dX6_add_71 : decode cX6_add 71 = .ok (.getfield 10, 3) := by decide +kernel
theorem dX6_add_74 : decode cX6_add 74 = .ok (.invokevirtual 68, 3) := by decide +kernel
theorem dX6_add_77 : decode cX6_add 77 = .ok (.aload_n 0, 1) := by decide +kernel
theorem dX6_add_78 : decode cX6_add 78 = .ok (.getfield 10, 3) := by decide +kernel
theorem dX6_add_81 : decode cX6_add 81 = .ok (.getfield 58, 3) := by decide +kernel
theorem dX6_add_84 : decode cX6_add 84 = .ok (.iload_n 1, 1) := by decide +kernel
theorem dX6_add_85 : decode cX6_add 85 = .ok (.iload_n 2, 1) := by decide +kernel
theorem dX6_add_86 : decode cX6_add 86 = .ok (.iload_n 3, 1) := by decide +kernel
theorem dX6_add_87 : decode cX6_add 87 = .ok (.iload 4, 2) := by decide +kernel
theorem dX6_add_89 : decode cX6_add 89 = .ok (.iload 5, 2) := by decide +kernel
theorem dX6_add_91 : decode cX6_add 91 = .ok (.invokevirtual 72, 3) := by decide +kernel
theorem dX6_add_94 : decode cX6_add 94 = .ok (.ireturn, 1) := by decide +kernel
theorem dX6_drop_0 : decode cX6_drop 0 = .ok (.aload_n 0, 1) := by decide +kernel
theorem dX6_drop_1 : decode cX6_drop 1 = .ok (.getfield 10, 3) := by decide +kernel
theorem dX6_drop_4 : decode cX6_drop 4 = .ok (.getfield 58, 3) := by decide +kernel
theorem dX6_drop_7 : decode cX6_drop 7 = .ok (.invokevirtual 76, 3) := by decide +kernel
theorem dX6_drop_10 : decode cX6_drop 10 = .ok (.ifCond .ne 6, 3) := by decide +kernel
theorem dX6_drop_13 : decode cX6_drop 13 = .ok (.bipush (-5), 2) := by decide +kernel
theorem dX6_drop_15 : decode cX6_drop 15 = .ok (.ireturn, 1) := by decide +kernel
theorem dX6_drop_16 : decode cX6_drop 16 = .ok (.aload_n 0, 1) := by decide +kernel
theorem dX6_drop_17 : decode cX6_drop 17 = .ok (.getfield 29, 3) := by decide +kernel
theorem dX6_drop_20 : decode cX6_drop 20 = .ok (.aload_n 0, 1) := by decide +kernel
theorem dX6_drop_21 : decode cX6_drop 21 = .ok (.getfield 10, 3) := by decide +kernel
theorem dX6_drop_24 : decode cX6_drop 24 = .ok (.invokevirtual 68, 3) := by decide +kernel
theorem dX6_drop_27 : decode cX6_drop 27 = .ok (.aload_n 0, 1) := by decide +kernel
theorem dX6_drop_28 : decode cX6_drop 28 = .ok (.getfield 10, 3) := by decide +kernel
theorem dX6_drop_31 : decode cX6_drop 31 = .ok (.getfield 58, 3) := by decide +kernel
theorem dX6_drop_34 : decode cX6_drop 34 = .ok (.invokevirtual 80, 3) := by decide +kernel
theorem dX6_drop_37 : decode cX6_drop 37 = .ok (.ireturn, 1) := by decide +kernel
theorem dX6_read_0 : decode cX6_read 0 = .ok (.aload_n 0, 1) := by decide +kernel
theorem dX6_read_1 : decode cX6_read 1 = .ok (.getfield 16, 3) := by decide +kernel
theorem dX6_read_4 : decode cX6_read 4 = .ok (.getfield 58, 3) := by decide +kernel
theorem dX6_read_7 : decode cX6_read 7 = .ok (.astore_n 1, 1) := by decide +kernel
theorem dX6_read_8 : decode cX6_read 8 = .ok (.aload_n 0, 1) := by decide +kernel
theorem dX6_read_9 : decode cX6_read 9 = .ok (.getfield 43, 3) := by decide +kernel
theorem dX6_read_12 : decode cX6_read 12 = .ok (.aload_n 1, 1) := by decide +kernel
theorem dX6_read_13 : decode cX6_read 13 = .ok (.aload_n 0, 1) := by decide +kernel
theorem dX6_read_14 : decode cX6_read 14 = .ok (.getfield 36, 3) := by decide +kernel
theorem dX6_read_17 : decode cX6_read 17 = .ok (.invokevirtual 83, 3) := by decide +kernel
theorem dX6_read_20 : decode cX6_read 20 = .ok (.aload_n 0, 1) := by decide +kernel
theorem dX6_read_21 : decode cX6_read 21 = .ok (.getfield 43, 3) := by decide +kernel
theorem dX6_read_24 : decode cX6_read 24 = .ok (.getfield 87, 3) := by decide +kernel
theorem dX6_read_27 : decode cX6_read 27 = .ok (.ifCond .eq 14, 3) := by decide +kernel
theorem dX6_read_30 : decode cX6_read 30 = .ok (.bipush (-100), 2) := by decide +kernel
theorem dX6_read_32 : decode cX6_read 32 = .ok (.aload_n 0, 1) := by decide +kernel
theorem dX6_read_33 : decode cX6_read 33 = .ok (.getfield 43, 3) := by decide +kernel
theorem dX6_read_36 : decode cX6_read 36 = .ok (.getfield 90, 3) := by decide +kernel
theorem dX6_read_39 : decode cX6_read 39 = .ok (.isub, 1) := by decide +kernel
theorem dX6_read_40 : decode cX6_read 40 = .ok (.ireturn, 1) := by decide +kernel
theorem dX6_read_41 : decode cX6_read 41 = .ok (.aload_n 0, 1) := by decide +kernel
theorem dX6_read_42 : decode cX6_read 42 = .ok (.getfield 43, 3) := by decide +kernel
theorem dX6_read_45 : decode cX6_read 45 = .ok (.getfield 94, 3) := by decide +kernel
theorem dX6_read_48 : decode cX6_read 48 = .ok (.ifCond .eq 6, 3) := by decide +kernel
theorem dX6_read_51 : decode cX6_read 51 = .ok (.bipush (-3), 2) := by decide +kernel
theorem dX6_read_53 : decode cX6_read 53 = .ok (.ireturn, 1) := by decide +kernel
theorem dX6_read_54 : decode cX6_read 54 = .ok (.aload_n 0, 1) := by decide +kernel
theorem dX6_read_55 : decode cX6_read 55 = .ok (.getfield 29, 3) := by decide +kernel
theorem dX6_read_58 : decode cX6_read 58 = .ok (.aload_n 0, 1) := by decide +kernel
theorem dX6_read_59 : decode cX6_read 59 = .ok (.getfield 10, 3) := by decide +kernel
theorem dX6_read_62 : decode cX6_read 62 = .ok (.invokevirtual 68, 3) := by decide +kernel
theorem dX6_read_65 : decode cX6_read 65 = .ok (.aload_n 0, 1) := by decide +kernel
theorem dX6_read_66 : decode cX6_read 66 = .ok (.getfield 10, 3) := by decide +kernel
theorem dX6_read_69 : decode cX6_read 69 = .ok (.getfield 58, 3) := by decide +kernel
theorem dX6_read_72 : decode cX6_read 72 = .ok (.aload_n 1, 1) := by decide +kernel
theorem dX6_read_73 : decode cX6_read 73 = .ok (.invokevirtual 97, 3) := by decide +kernel
theorem dX6_read_76 : decode cX6_read 76 = .ok (.aload_n 0, 1) := by decide +kernel
theorem dX6_read_77 : decode cX6_read 77 = .ok (.getfield 10, 3) := by decide +kernel
theorem dX6_read_80 : decode cX6_read 80 = .ok (.getfield 58, 3) := by decide +kernel
theorem dX6_read_83 : decode cX6_read 83 = .ok (.invokevirtual 76, 3) := by decide +kernel
theorem dX6_read_86 : decode cX6_read 86 = .ok (.ireturn, 1) := by decide +kernel
theorem dX6_set_0 : decode cX6_set 0 = .ok (.iload_n 1, 1) := by decide +kernel
theorem dX6_set_1 : decode cX6_set 1 = .ok (.invokestatic 101, 3) := by decide +kernel
theorem dX6_set_4 : decode cX6_set 4 = .ok (.ifCond .ne 5, 3) := by decide +kernel
theorem dX6_set_7 : decode cX6_set 7 = .ok (.iconst (-1), 1) := by decide +kernel
theorem dX6_set_8 : decode cX6_set 8 = .ok (.ireturn, 1) := by decide +kernel
theorem dX6_set_9 : decode cX6_set 9 = .ok (.iload_n 1, 1) := by decide +kernel
theorem dX6_set_10 : decode cX6_set 10 = .ok (.iload_n 2, 1) := by decide +kernel
theorem dX6_set_11 : decode cX6_set 11 = .ok (.invokestatic 105, 3) := by decide +kernel
theorem dX6_set_14 : decode cX6_set 14 = .ok (.ifCond .ne 6, 3) := by decide +kernel
theorem dX6_set_17 : decode cX6_set 17 = .ok (.bipush (-2), 2) := by decide +kernel
theorem dX6_set_19 : decode cX6_set 19 = .ok (.ireturn, 1) := by decide +kernel
theorem dX6_set_20 : decode cX6_set 20 = .ok (.aload_n 0, 1) := by decide +kernel
theorem dX6_set_21 : decode cX6_set 21 = .ok (.getfield 10, 3) := by decide +kernel
theorem dX6_set_24 : decode cX6_set 24 = .ok (.iload_n 1, 1) := by decide +kernel
theorem dX6_set_25 : decode cX6_set 25 = .ok (.invokevirtual 108, 3) := by decide +kernel
theorem dX6_set_28 : decode cX6_set 28 = .ok (.istore_n 3, 1) := by decide +kernel
theorem dX6_set_29 : decode cX6_set 29 = .ok (.iload_n 3, 1) := by decide +kernel
theorem dX6_set_30 : decode cX6_set 30 = .ok (.iload_n 2, 1) := by decide +kernel
theorem dX6_set_31 : decode cX6_set 31 = .ok (.if_icmp .ne 6, 3) := by decide +kernel
theorem dX6_set_34 : decode cX6_set 34 = .ok (.bipush (-5), 2) := by decide +kernel
theorem dX6_set_36 : decode cX6_set 36 = .ok (.ireturn, 1) := by decide +kernel
theorem dX6_set_37 : decode cX6_set 37 = .ok (.aload_n 0, 1) := by decide +kernel
theorem dX6_set_38 : decode cX6_set 38 = .ok (.getfield 29, 3) := by decide +kernel
theorem dX6_set_41 : decode cX6_set 41 = .ok (.aload_n 0, 1) := by decide +kernel
theorem dX6_set_42 : decode cX6_set 42 = .ok (.getfield 10, 3) := by decide +kernel
theorem dX6_set_45 : decode cX6_set 45 = .ok (.invokevirtual 68, 3) := by decide +kernel
theorem dX6_set_48 : decode cX6_set 48 = .ok (.aload_n 0, 1) := by decide +kernel
theorem dX6_set_49 : decode cX6_set 49 = .ok (.getfield 10, 3) := by decide +kernel
theorem dX6_set_52 : decode cX6_set 52 = .ok (.iload_n 1, 1) := by decide +kernel
theorem dX6_set_53 : decode cX6_set 53 = .ok (.iload_n 2, 1) := by decide +kernel
theorem dX6_set_54 : decode cX6_set 54 = .ok (.invokevirtual 112, 3) := by decide +kernel
theorem dX6_set_57 : decode cX6_set 57 = .ok (.iload_n 3, 1) := by decide +kernel
theorem dX6_set_58 : decode cX6_set 58 = .ok (.ireturn, 1) := by decide +kernel
theorem dX6_sing_0 : decode cX6_sing 0 = .ok (.iload_n 1, 1) := by decide +kernel
theorem dX6_sing_1 : decode cX6_sing 1 = .ok (.iload_n 2, 1) := by decide +kernel
theorem dX6_sing_2 : decode cX6_sing 2 = .ok (.bipush 64, 2) := by decide +kernel
theorem dX6_sing_4 : decode cX6_sing 4 = .ok (.invokestatic 116, 3) := by decide +kernel
theorem dX6_sing_7 : decode cX6_sing 7 = .ok (.ifCond .eq 13, 3) := by decide +kernel
theorem dX6_sing_10 : decode cX6_sing 10 = .ok (.iload_n 3, 1) := by decide +kernel
theorem dX6_sing_11 : decode cX6_sing 11 = .ok (.iconst 0, 1) := by decide +kernel
theorem dX6_sing_12 : decode cX6_sing 12 = .ok (.bipush 60, 2) := by decide +kernel
theorem dX6_sing_14 : decode cX6_sing 14 = .ok (.invokestatic 54, 3) := by decide +kernel
theorem dX6_sing_17 : decode cX6_sing 17 = .ok (.ifCond .ne 6, 3) := by decide +kernel
theorem dX6_sing_20 : decode cX6_sing 20 = .ok (.bipush (-2), 2) := by decide +kernel
theorem dX6_sing_22 : decode cX6_sing 22 = .ok (.ireturn, 1) := by decide +kernel
theorem dX6_sing_23 : decode cX6_sing 23 = .ok (.aload_n 0, 1) := by decide +kernel
theorem dX6_sing_24 : decode cX6_sing 24 = .ok (.getfield 29, 3) := by decide +kernel
theorem dX6_sing_27 : decode cX6_sing 27 = .ok (.aload_n 0, 1) := by decide +kernel
theorem dX6_sing_28 : decode cX6_sing 28 = .ok (.getfield 10, 3) := by decide +kernel
theorem dX6_sing_31 : decode cX6_sing 31 = .ok (.invokevirtual 68, 3) := by decide +kernel
theorem dX6_sing_34 : decode cX6_sing 34 = .ok (.aload_n 0, 1) := by decide +kernel
theorem dX6_sing_35 : decode cX6_sing 35 = .ok (.getfield 10, 3) := by decide +kernel
theorem dX6_sing_38 : decode cX6_sing 38 = .ok (.iload_n 1, 1) := by decide +kernel
theorem dX6_sing_39 : decode cX6_sing 39 = .ok (.iload_n 2, 1) := by decide +kernel
theorem dX6_sing_40 : decode cX6_sing 40 = .ok (.iload_n 3, 1) := by decide +kernel
theorem dX6_sing_41 : decode cX6_sing 41 = .ok (.invokevirtual 119, 3) := by decide +kernel
theorem dX6_sing_44 : decode cX6_sing 44 = .ok (.aload_n 0, 1) := by decide +kernel
theorem dX6_sing_45 : decode cX6_sing 45 = .ok (.invokevirtual 123, 3) := by decide +kernel
theorem dX6_sing_48 : decode cX6_sing 48 = .ok (.ireturn, 1) := by decide +kernel
theorem dX6_silence_0 : decode cX6_silence 0 = .ok (.iload_n 1, 1) := by decide +kernel
theorem dX6_silence_1 : decode cX6_silence 1 = .ok (.iload_n 2, 1) := by decide +kernel
theorem dX6_silence_2 : decode cX6_silence 2 = .ok (.sipush 600, 3) := by decide +kernel
theorem dX6_silence_5 : decode cX6_silence 5 = .ok (.invokestatic 116, 3) := by decide +kernel
theorem dX6_silence_8 : decode cX6_silence 8 = .ok (.ifCond .ne 6, 3) := by decide +kernel
theorem dX6_silence_11 : decode cX6_silence 11 = .ok (.bipush (-2), 2) := by decide +kernel
theorem dX6_silence_13 : decode cX6_silence 13 = .ok (.ireturn, 1) := by decide +kernel
theorem dX6_silence_14 : decode cX6_silence 14 = .ok (.aload_n 0, 1) := by decide +kernel
theorem dX6_silence_15 : decode cX6_silence 15 = .ok (.getfield 29, 3) := by decide +kernel
theorem dX6_silence_18 : decode cX6_silence 18 = .ok (.aload_n 0, 1) := by decide +kernel
theorem dX6_silence_19 : decode cX6_silence 19 = .ok (.getfield 10, 3) := by decide +kernel
theorem dX6_silence_22 : decode cX6_silence 22 = .ok (.invokevirtual 68, 3) := by decide +kernel
theorem dX6_silence_25 : decode cX6_silence 25 = .ok (.aload_n 0, 1) := by decide +kernel
theorem dX6_silence_26 : decode cX6_silence 26 = .ok (.getfield 10, 3) := by decide +kernel
theorem dX6_silence_29 : decode cX6_silence 29 = .ok (.invokevirtual 126, 3) := by decide +kernel
theorem dX6_silence_32 : decode cX6_silence 32 = .ok (.istore_n 3, 1) := by decide +kernel
theorem dX6_silence_33 : decode cX6_silence 33 = .ok (.aload_n 0, 1) := by decide +kernel
theorem dX6_silence_34 : decode cX6_silence 34 = .ok (.getfield 10, 3) := by decide +kernel
theorem dX6_silence_37 : decode cX6_silence 37 = .ok (.iload_n 1, 1) := by decide +kernel
theorem dX6_silence_38 : decode cX6_silence 38 = .ok (.iload_n 2, 1) := by decide +kernel
theorem dX6_silence_39 : decode cX6_silence 39 = .ok (.iconst (-1), 1) := by decide +kernel
theorem dX6_silence_40 : decode cX6_silence 40 = .ok (.invokevirtual 119, 3) := by decide +kernel
theorem dX6_silence_43 : decode cX6_silence 43 = .ok (.iload_n 3, 1) := by decide +kernel
theorem dX6_silence_44 : decode cX6_silence 44 = .ok (.aload_n 0, 1) := by decide +kernel
theorem dX6_silence_45 : decode cX6_silence 45 = .ok (.getfield 10, 3) := by decide +kernel
theorem dX6_silence_48 : decode cX6_silence 48 = .ok (.invokevirtual 126, 3) := by decide +kernel
theorem dX6_silence_51 : decode cX6_silence 51 = .ok (.isub, 1) := by decide +kernel
theorem dX6_silence_52 : decode cX6_silence 52 = .ok (.ireturn, 1) := by decide +kernel
theorem dX6_singAlong_0 : decode cX6_singAlong 0 = .ok (.aload_n 0, 1) := by decide +kernel
theorem dX6_singAlong_1 : decode cX6_singAlong 1 = .ok (.getfield 10, 3) := by decide +kernel
theorem dX6_singAlong_4 : decode cX6_singAlong 4 = .ok (.getfield 58, 3) := by decide +kernel
theorem dX6_singAlong_7 : decode cX6_singAlong 7 = .ok (.iload_n 1, 1) := by decide +kernel
theorem dX6_singAlong_8 : decode cX6_singAlong 8 = .ok (.invokevirtual 129, 3) := by decide +kernel
theorem dX6_singAlong_11 : decode cX6_singAlong 11 = .ok (.ifCond .eq 17, 3) := by decide +kernel
theorem dX6_singAlong_14 : decode cX6_singAlong 14 = .ok (.aload_n 0, 1) := by decide +kernel
theorem dX6_singAlong_15 : decode cX6_singAlong 15 = .ok (.getfield 10, 3) := by decide +kernel
theorem dX6_singAlong_18 : decode cX6_singAlong 18 = .ok (.getfield 58, 3) := by decide +kernel
theorem dX6_singAlong_21 : decode cX6_singAlong 21 = .ok (.iload_n 2, 1) := by decide +kernel
theorem dX6_singAlong_22 : decode cX6_singAlong 22 = .ok (.invokevirtual 129, 3) := by decide +kernel
theorem dX6_singAlong_25 : decode cX6_singAlong 25 = .ok (.ifCond .ne 5, 3) := by decide +kernel
theorem dX6_singAlong_28 : decode cX6_singAlong 28 = .ok (.iconst (-1), 1) := by decide +kernel
theorem dX6_singAlong_29 : decode cX6_singAlong 29 = .ok (.ireturn, 1) := by decide +kernel
theorem dX6_singAlong_30 : decode cX6_singAlong 30 = .ok (.iload_n 2, 1) := by decide +kernel
theorem dX6_singAlong_31 : decode cX6_singAlong 31 = .ok (.iload_n 1, 1) := by decide +kernel
theorem dX6_singAlong_32 : decode cX6_singAlong 32 = .ok (.if_icmp .lt 14, 3) := by decide +kernel
theorem dX6_singAlong_35 : decode cX6_singAlong 35 = .ok (.iload_n 3, 1) := by decide +kernel
theorem dX6_singAlong_36 : decode cX6_singAlong 36 = .ok (.bipush (-60), 2) := by decide +kernel
theorem dX6_singAlong_38 : decode cX6_singAlong 38 = .ok (.bipush 60, 2) := by decide +kernel
theorem dX6_singAlong_40 : decode cX6_singAlong 40 = .ok (.invokestatic 54, 3) := by decide +kernel
theorem dX6_singAlong_43 : decode cX6_singAlong 43 = .ok (.ifCond .ne 6, 3) := by decide +kernel
theorem dX6_singAlong_46 : decode cX6_singAlong 46 = .ok (.bipush (-2), 2) := by decide +kernel
theorem dX6_singAlong_48 : decode cX6_singAlong 48 = .ok (.ireturn, 1) := by decide +kernel
theorem dX6_singAlong_49 : decode cX6_singAlong 49 = .ok (.aload_n 0, 1) := by decide +kernel
theorem dX6_singAlong_50 : decode cX6_singAlong 50 = .ok (.getfield 29, 3) := by decide +kernel
theorem dX6_singAlong_53 : decode cX6_singAlong 53 = .ok (.aload_n 0, 1) := by decide +kernel
theorem dX6_singAlong_54 : decode cX6_singAlong 54 = .ok (.getfield 10, 3) := by decide +kernel
theorem dX6_singAlong_57 : decode cX6_singAlong 57 = .ok (.invokevirtual 68, 3) := by decide +kernel
theorem dX6_singAlong_60 : decode cX6_singAlong 60 = .ok (.iload_n 1, 1) := by decide +kernel
theorem dX6_singAlong_61 : decode cX6_singAlong 61 = .ok (.istore 4, 2) := by decide +kernel
theorem dX6_singAlong_63 : decode cX6_singAlong 63 = .ok (.iload 4, 2) := by decide +kernel
theorem dX6_singAlong_65 : decode cX6_singAlong 65 = .ok (.iload_n 2, 1) := by decide +kernel
theorem dX6_singAlong_66 : decode cX6_singAlong 66 = .ok (.if_icmp .gt 19, 3) := by decide +kernel
theorem dX6_singAlong_69 : decode cX6_singAlong 69 = .ok (.aload_n 0, 1) := by decide +kernel
theorem dX6_singAlong_70 : decode cX6_singAlong 70 = .ok (.getfield 10, 3) := by decide +kernel
theorem dX6_singAlong_73 : decode cX6_singAlong 73 = .ok (.iload 4, 2) := by decide +kernel
theorem dX6_singAlong_75 : decode cX6_singAlong 75 = .ok (.iload_n 3, 1) := by decide +kernel
theorem dX6_singAlong_76 : decode cX6_singAlong 76 = .ok (.invokevirtual 132, 3) := by decide +kernel
theorem dX6_singAlong_79 : decode cX6_singAlong 79 = .ok (.iinc 4 1, 3) := by decide +kernel
theorem dX6_singAlong_82 : decode cX6_singAlong 82 = .ok (.goto (-19), 3) := by decide +kernel
theorem dX6_singAlong_85 : decode cX6_singAlong 85 = .ok (.aload_n 0, 1) := by decide +kernel
theorem dX6_singAlong_86 : decode cX6_singAlong 86 = .ok (.invokevirtual 123, 3) := by decide +kernel
theorem dX6_singAlong_89 : decode cX6_singAlong 89 = .ok (.ireturn, 1) := by decide +kernel
theorem dX6_type_0 : decode cX6_type 0 = .ok (.aload_n 0, 1) := by decide +kernel
theorem dX6_type_1 : decode cX6_type 1 = .ok (.getfield 36, 3) := by decide +kernel
theorem dX6_type_4 : decode cX6_type 4 = .ok (.invokevirtual 135, 3) := by decide +kernel
theorem dX6_type_7 : decode cX6_type 7 = .ok (.ifCond .eq 6, 3) := by decide +kernel
theorem dX6_type_10 : decode cX6_type 10 = .ok (.bipush (-3), 2) := by decide +kernel
theorem dX6_type_12 : decode cX6_type 12 = .ok (.ireturn, 1) := by decide +kernel
theorem dX6_type_13 : decode cX6_type 13 = .ok (.aload_n 0, 1) := by decide +kernel
theorem dX6_type_14 : decode cX6_type 14 = .ok (.getfield 36, 3) := by decide +kernel
theorem dX6_type_17 : decode cX6_type 17 = .ok (.iload_n 1, 1) := by decide +kernel
theorem dX6_type_18 : decode cX6_type 18 = .ok (.invokevirtual 139, 3) := by decide +kernel
theorem dX6_type_21 : decode cX6_type 21 = .ok (.ireturn, 1) := by decide +kernel
theorem dX6_clearText_0 : decode cX6_clearText 0 = .ok (.aload_n 0, 1) := by decide +kernel
theorem dX6_clearText_1 : decode cX6_clearText 1 = .ok (.getfield 36, 3) := by decide +kernel
theorem dX6_clearText_4 : decode cX6_clearText 4 = .ok (.invokevirtual 142, 3) := by decide +kernel
theorem dX6_clearText_7 : decode cX6_clearText 7 = .ok (.ireturn, 1) := by decide +kernel
theorem dX6_undo_0 : decode cX6_undo 0 = .ok (.aload_n 0, 1) := by decide +kernel
theorem dX6_undo_1 : decode cX6_undo 1 = .ok (.getfield 29, 3) := by decide +kernel
theorem dX6_undo_4 : decode cX6_undo 4 = .ok (.invokevirtual 145, 3) := by decide +kernel
theorem dX6_undo_7 : decode cX6_undo 7 = .ok (.ifCond .ne 6, 3) := by decide +kernel
theorem dX6_undo_10 : decode cX6_undo 10 = .ok (.bipush (-5), 2) := by decide +kernel
theorem dX6_undo_12 : decode cX6_undo 12 = .ok (.ireturn, 1) := by decide +kernel
theorem dX6_undo_13 : decode cX6_undo 13 = .ok (.aload_n 0, 1) := by decide +kernel
theorem dX6_undo_14 : decode cX6_undo 14 = .ok (.getfield 29, 3) := by decide +kernel
theorem dX6_undo_17 : decode cX6_undo 17 = .ok (.aload_n 0, 1) := by decide +kernel
theorem dX6_undo_18 : decode cX6_undo 18 = .ok (.getfield 10, 3) := by decide +kernel
theorem dX6_undo_21 : decode cX6_undo 21 = .ok (.invokevirtual 146, 3) := by decide +kernel
theorem dX6_undo_24 : decode cX6_undo 24 = .ok (.ireturn, 1) := by decide +kernel
theorem dX6_keep_0 : decode cX6_keep 0 = .ok (.aload_n 0, 1) := by decide +kernel
theorem dX6_keep_1 : decode cX6_keep 1 = .ok (.getfield 19, 3) := by decide +kernel
theorem dX6_keep_4 : decode cX6_keep 4 = .ok (.aload_n 0, 1) := by decide +kernel
theorem dX6_keep_5 : decode cX6_keep 5 = .ok (.getfield 10, 3) := by decide +kernel
theorem dX6_keep_8 : decode cX6_keep 8 = .ok (.invokevirtual 150, 3) := by decide +kernel
theorem dX6_keep_11 : decode cX6_keep 11 = .ok (.aload_n 0, 1) := by decide +kernel
theorem dX6_keep_12 : decode cX6_keep 12 = .ok (.iconst 1, 1) := by decide +kernel
theorem dX6_keep_13 : decode cX6_keep 13 = .ok (.putfield 22, 3) := by decide +kernel
theorem dX6_keep_16 : decode cX6_keep 16 = .ok (.aload_n 0, 1) := by decide +kernel
theorem dX6_keep_17 : decode cX6_keep 17 = .ok (.getfield 10, 3) := by decide +kernel
theorem dX6_keep_20 : decode cX6_keep 20 = .ok (.getfield 58, 3) := by decide +kernel
theorem dX6_keep_23 : decode cX6_keep 23 = .ok (.invokevirtual 76, 3) := by decide +kernel
theorem dX6_keep_26 : decode cX6_keep 26 = .ok (.ireturn, 1) := by decide +kernel
theorem dX6_restore_0 : decode cX6_restore 0 = .ok (.aload_n 0, 1) := by decide +kernel
theorem dX6_restore_1 : decode cX6_restore 1 = .ok (.getfield 22, 3) := by decide +kernel
theorem dX6_restore_4 : decode cX6_restore 4 = .ok (.ifCond .ne 6, 3) := by decide +kernel
theorem dX6_restore_7 : decode cX6_restore 7 = .ok (.bipush (-5), 2) := by decide +kernel
theorem dX6_restore_9 : decode cX6_restore 9 = .ok (.ireturn, 1) := by decide +kernel
theorem dX6_restore_10 : decode cX6_restore 10 = .ok (.aload_n 0, 1) := by decide +kernel
theorem dX6_restore_11 : decode cX6_restore 11 = .ok (.getfield 29, 3) := by decide +kernel
theorem dX6_restore_14 : decode cX6_restore 14 = .ok (.aload_n 0, 1) := by decide +kernel
theorem dX6_restore_15 : decode cX6_restore 15 = .ok (.getfield 10, 3) := by decide +kernel
theorem dX6_restore_18 : decode cX6_restore 18 = .ok (.invokevirtual 68, 3) := by decide +kernel
theorem dX6_restore_21 : decode cX6_restore 21 = .ok (.aload_n 0, 1) := by decide +kernel
theorem dX6_restore_22 : decode cX6_restore 22 = .ok (.getfield 10, 3) := by decide +kernel
theorem dX6_restore_25 : decode cX6_restore 25 = .ok (.aload_n 0, 1) := by decide +kernel
theorem dX6_restore_26 : decode cX6_restore 26 = .ok (.getfield 19, 3) := by decide +kernel
theorem dX6_restore_29 : decode cX6_restore 29 = .ok (.invokevirtual 150, 3) := by decide +kernel
theorem dX6_restore_32 : decode cX6_restore 32 = .ok (.aload_n 0, 1) := by decide +kernel
theorem dX6_restore_33 : decode cX6_restore 33 = .ok (.getfield 10, 3) := by decide +kernel
theorem dX6_restore_36 : decode cX6_restore 36 = .ok (.getfield 58, 3) := by decide +kernel
theorem dX6_restore_39 : decode cX6_restore 39 = .ok (.invokevirtual 76, 3) := by decide +kernel
theorem dX6_restore_42 : decode cX6_restore 42 = .ok (.ireturn, 1) := by decide +kernel
theorem dX6_syllable_0 : decode cX6_syllable 0 = .ok (.aload_n 0, 1) := by decide +kernel
theorem dX6_syllable_1 : decode cX6_syllable 1 = .ok (.getfield 10, 3) := by decide +kernel
theorem dX6_syllable_4 : decode cX6_syllable 4 = .ok (.getfield 58, 3) := by decide +kernel
theorem dX6_syllable_7 : decode cX6_syllable 7 = .ok (.iload_n 1, 1) := by decide +kernel
theorem dX6_syllable_8 : decode cX6_syllable 8 = .ok (.invokevirtual 129, 3) := by decide +kernel
theorem dX6_syllable_11 : decode cX6_syllable 11 = .ok (.ifCond .ne 5, 3) := by decide +kernel
theorem dX6_syllable_14 : decode cX6_syllable 14 = .ok (.iconst (-1), 1) := by decide +kernel
theorem dX6_syllable_15 : decode cX6_syllable 15 = .ok (.ireturn, 1) := by decide +kernel
theorem dX6_syllable_16 : decode cX6_syllable 16 = .ok (.iload_n 2, 1) := by decide +kernel
theorem dX6_syllable_17 : decode cX6_syllable 17 = .ok (.iconst 0, 1) := by decide +kernel
theorem dX6_syllable_18 : decode cX6_syllable 18 = .ok (.bipush 11, 2) := by decide +kernel
theorem dX6_syllable_20 : decode cX6_syllable 20 = .ok (.invokestatic 54, 3) := by decide +kernel
theorem dX6_syllable_23 : decode cX6_syllable 23 = .ok (.ifCond .ne 6, 3) := by decide +kernel
theorem dX6_syllable_26 : decode cX6_syllable 26 = .ok (.bipush (-2), 2) := by decide +kernel
theorem dX6_syllable_28 : decode cX6_syllable 28 = .ok (.ireturn, 1) := by decide +kernel
theorem dX6_syllable_29 : decode cX6_syllable 29 = .ok (.aload_n 0, 1) := by decide +kernel
theorem dX6_syllable_30 : decode cX6_syllable 30 = .ok (.getfield 50, 3) := by decide +kernel
theorem dX6_syllable_33 : decode cX6_syllable 33 = .ok (.aload_n 0, 1) := by decide +kernel
theorem dX6_syllable_34 : decode cX6_syllable 34 = .ok (.getfield 10, 3) := by decide +kernel
theorem dX6_syllable_37 : decode cX6_syllable 37 = .ok (.invokevirtual 152, 3) := by decide +kernel
theorem dX6_syllable_40 : decode cX6_syllable 40 = .ok (.iload_n 2, 1) := by decide +kernel
theorem dX6_syllable_41 : decode cX6_syllable 41 = .ok (.tableswitch 184 0 10 #[59, 71, 83, 95, 107, 119, 139, 148, 157, 166, 175], 59) := by decide +kernel
theorem dX6_syllable_100 : decode cX6_syllable 100 = .ok (.aload_n 0, 1) := by decide +kernel
theorem dX6_syllable_101 : decode cX6_syllable 101 = .ok (.getfield 10, 3) := by decide +kernel
theorem dX6_syllable_104 : decode cX6_syllable 104 = .ok (.getfield 58, 3) := by decide +kernel
theorem dX6_syllable_107 : decode cX6_syllable 107 = .ok (.iload_n 1, 1) := by decide +kernel
theorem dX6_syllable_108 : decode cX6_syllable 108 = .ok (.invokevirtual 154, 3) := by decide +kernel
theorem dX6_syllable_111 : decode cX6_syllable 111 = .ok (.ireturn, 1) := by decide +kernel
theorem dX6_syllable_112 : decode cX6_syllable 112 = .ok (.aload_n 0, 1) := by decide +kernel
theorem dX6_syllable_113 : decode cX6_syllable 113 = .ok (.getfield 10, 3) := by decide +kernel
theorem dX6_syllable_116 : decode cX6_syllable 116 = .ok (.getfield 58, 3) := by decide +kernel
theorem dX6_syllable_119 : decode cX6_syllable 119 = .ok (.iload_n 1, 1) := by decide +kernel
theorem dX6_syllable_120 : decode cX6_syllable 120 = .ok (.invokevirtual 157, 3) := by decide +kernel
theorem dX6_syllable_123 : decode cX6_syllable 123 = .ok (.ireturn, 1) := by decide +kernel
theorem dX6_syllable_124 : decode cX6_syllable 124 = .ok (.aload_n 0, 1) := by decide +kernel
theorem dX6_syllable_125 : decode cX6_syllable 125 = .ok (.getfield 10, 3) := by decide +kernel
theorem dX6_syllable_128 : decode cX6_syllable 128 = .ok (.getfield 58, 3) := by decide +kernel
theorem dX6_syllable_131 : decode cX6_syllable 131 = .ok (.iload_n 1, 1) := by decide +kernel
theorem dX6_syllable_132 : decode cX6_syllable 132 = .ok (.invokevirtual 160, 3) := by decide +kernel
theorem dX6_syllable_135 : decode cX6_syllable 135 = .ok (.ireturn, 1) := by decide +kernel
theorem dX6_syllable_136 : decode cX6_syllable 136 = .ok (.aload_n 0, 1) := by decide +kernel
theorem dX6_syllable_137 : decode cX6_syllable 137 = .ok (.getfield 10, 3) := by decide +kernel
theorem dX6_syllable_140 : decode cX6_syllable 140 = .ok (.getfield 58, 3) := by decide +kernel
theorem dX6_syllable_143 : decode cX6_syllable 143 = .ok (.iload_n 1, 1) := by decide +kernel
theorem dX6_syllable_144 : decode cX6_syllable 144 = .ok (.invokevirtual 163, 3) := by decide +kernel
theorem dX6_syllable_147 : decode cX6_syllable 147 = .ok (.ireturn, 1) := by decide +kernel
theorem dX6_syllable_148 : decode cX6_syllable 148 = .ok (.aload_n 0, 1) := by decide +kernel
theorem dX6_syllable_149 : decode cX6_syllable 149 = .ok (.getfield 10, 3) := by decide +kernel
theorem dX6_syllable_152 : decode cX6_syllable 152 = .ok (.getfield 58, 3) := by decide +kernel
theorem dX6_syllable_155 : decode cX6_syllable 155 = .ok (.iload_n 1, 1) := by decide +kernel
theorem dX6_syllable_156 : decode cX6_syllable 156 = .ok (.invokevirtual 166, 3) := by decide +kernel
theorem dX6_syllable_159 : decode cX6_syllable 159 = .ok (.ireturn, 1) := by decide +kernel
theorem dX6_syllable_160 : decode cX6_syllable 160 = .ok (.aload_n 0, 1) := by decide +kernel
theorem dX6_syllable_161 : decode cX6_syllable 161 = .ok (.getfield 10, 3) := by decide +kernel
theorem dX6_syllable_164 : decode cX6_syllable 164 = .ok (.getfield 58, 3) := by decide +kernel
theorem dX6_syllable_167 : decode cX6_syllable 167 = .ok (.iload_n 1, 1) := by decide +kernel
theorem dX6_syllable_168 : decode cX6_syllable 168 = .ok (.aload_n 0, 1) := by decide +kernel
theorem dX6_syllable_169 : decode cX6_syllable 169 = .ok (.getfield 10, 3) := by decide +kernel
theorem dX6_syllable_172 : decode cX6_syllable 172 = .ok (.iconst 0, 1) := by decide +kernel
theorem dX6_syllable_173 : decode cX6_syllable 173 = .ok (.invokevirtual 108, 3) := by decide +kernel
theorem dX6_syllable_176 : decode cX6_syllable 176 = .ok (.invokevirtual 169, 3) := by decide +kernel
theorem dX6_syllable_179 : decode cX6_syllable 179 = .ok (.ireturn, 1) := by decide +kernel
theorem dX6_syllable_180 : decode cX6_syllable 180 = .ok (.aload_n 0, 1) := by decide +kernel
theorem dX6_syllable_181 : decode cX6_syllable 181 = .ok (.getfield 50, 3) := by decide +kernel
theorem dX6_syllable_184 : decode cX6_syllable 184 = .ok (.iload_n 1, 1) := by decide +kernel
theorem dX6_syllable_185 : decode cX6_syllable 185 = .ok (.invokevirtual 173, 3) := by decide +kernel
theorem dX6_syllable_188 : decode cX6_syllable 188 = .ok (.ireturn, 1) := by decide +kernel
theorem dX6_syllable_189 : decode cX6_syllable 189 = .ok (.aload_n 0, 1) := by decide +kernel
theorem dX6_syllable_190 : decode cX6_syllable 190 = .ok (.getfield 50, 3) := by decide +kernel
theorem dX6_syllable_193 : decode cX6_syllable 193 = .ok (.iload_n 1, 1) := by decide +kernel
theorem dX6_syllable_194 : decode cX6_syllable 194 = .ok (.invokevirtual 176, 3) := by decide +kernel
theorem dX6_syllable_197 : decode cX6_syllable 197 = .ok (.ireturn, 1) := by decide +kernel
theorem dX6_syllable_198 : decode cX6_syllable 198 = .ok (.aload_n 0, 1) := by decide +kernel
theorem dX6_syllable_199 : decode cX6_syllable 199 = .ok (.getfield 50, 3) := by decide +kernel
theorem dX6_syllable_202 : decode cX6_syllable 202 = .ok (.iload_n 1, 1) := by decide +kernel
theorem dX6_syllable_203 : decode cX6_syllable 203 = .ok (.invokevirtual 179, 3) := by decide +kernel
theorem dX6_syllable_206 : decode cX6_syllable 206 = .ok (.ireturn, 1) := by decide +kernel
theorem dX6_syllable_207 : decode cX6_syllable 207 = .ok (.aload_n 0, 1) := by decide +kernel
theorem dX6_syllable_208 : decode cX6_syllable 208 = .ok (.getfield 50, 3) := by decide +kernel
theorem dX6_syllable_211 : decode cX6_syllable 211 = .ok (.iload_n 1, 1) := by decide +kernel
theorem dX6_syllable_212 : decode cX6_syllable 212 = .ok (.invokevirtual 182, 3) := by decide +kernel
theorem dX6_syllable_215 : decode cX6_syllable 215 = .ok (.ireturn, 1) := by decide +kernel
theorem dX6_syllable_216 : decode cX6_syllable 216 = .ok (.aload_n 0, 1) := by decide +kernel
theorem dX6_syllable_217 : decode cX6_syllable 217 = .ok (.getfield 50, 3) := by decide +kernel
theorem dX6_syllable_220 : decode cX6_syllable 220 = .ok (.iload_n 1, 1) := by decide +kernel
theorem dX6_syllable_221 : decode cX6_syllable 221 = .ok (.invokevirtual 185, 3) := by decide +kernel
theorem dX6_syllable_224 : decode cX6_syllable 224 = .ok (.ireturn, 1) := by decide +kernel
theorem dX6_syllable_225 : decode cX6_syllable 225 = .ok (.aload_n 0, 1) := by decide +kernel
theorem dX6_syllable_226 : decode cX6_syllable 226 = .ok (.getfield 50, 3) := by decide +kernel
theorem dX6_syllable_229 : decode cX6_syllable 229 = .ok (.iload_n 1, 1) := by decide +kernel
theorem dX6_syllable_230 : decode cX6_syllable 230 = .ok (.invokevirtual 188, 3) := by decide +kernel
theorem dX6_syllable_233 : decode cX6_syllable 233 = .ok (.ireturn, 1) := by decide +kernel
theorem dX6_wanted_0 : decode cX6_wanted 0 = .ok (.iload_n 1, 1) := by decide +kernel
theorem dX6_wanted_1 : decode cX6_wanted 1 = .ok (.iconst 0, 1) := by decide +kernel
theorem dX6_wanted_2 : decode cX6_wanted 2 = .ok (.sipush 599, 3) := by decide +kernel
theorem dX6_wanted_5 : decode cX6_wanted 5 = .ok (.invokestatic 54, 3) := by decide +kernel
theorem dX6_wanted_8 : decode cX6_wanted 8 = .ok (.ifCond .ne 6, 3) := by decide +kernel
theorem dX6_wanted_11 : decode cX6_wanted 11 = .ok (.bipush (-2), 2) := by decide +kernel
theorem dX6_wanted_13 : decode cX6_wanted 13 = .ok (.ireturn, 1) := by decide +kernel
theorem dX6_wanted_14 : decode cX6_wanted 14 = .ok (.aload_n 0, 1) := by decide +kernel
theorem dX6_wanted_15 : decode cX6_wanted 15 = .ok (.getfield 10, 3) := by decide +kernel
theorem dX6_wanted_18 : decode cX6_wanted 18 = .ok (.getfield 58, 3) := by decide +kernel
theorem dX6_wanted_21 : decode cX6_wanted 21 = .ok (.astore_n 2, 1) := by decide +kernel
theorem dX6_wanted_22 : decode cX6_wanted 22 = .ok (.iconst 0, 1) := by decide +kernel
theorem dX6_wanted_23 : decode cX6_wanted 23 = .ok (.istore_n 3, 1) := by decide +kernel
theorem dX6_wanted_24 : decode cX6_wanted 24 = .ok (.iload_n 3, 1) := by decide +kernel
theorem dX6_wanted_25 : decode cX6_wanted 25 = .ok (.aload_n 2, 1) := by decide +kernel
theorem dX6_wanted_26 : decode cX6_wanted 26 = .ok (.invokevirtual 76, 3) := by decide +kernel
theorem dX6_wanted_29 : decode cX6_wanted 29 = .ok (.if_icmp .ge 42, 3) := by decide +kernel
theorem dX6_wanted_32 : decode cX6_wanted 32 = .ok (.iload_n 1, 1) := by decide +kernel
theorem dX6_wanted_33 : decode cX6_wanted 33 = .ok (.aload_n 2, 1) := by decide +kernel
theorem dX6_wanted_34 : decode cX6_wanted 34 = .ok (.iload_n 3, 1) := by decide +kernel
theorem dX6_wanted_35 : decode cX6_wanted 35 = .ok (.invokevirtual 154, 3) := by decide +kernel
theorem dX6_wanted_38 : decode cX6_wanted 38 = .ok (.isub, 1) := by decide +kernel
theorem dX6_wanted_39 : decode cX6_wanted 39 = .ok (.istore 4, 2) := by decide +kernel
theorem dX6_wanted_41 : decode cX6_wanted 41 = .ok (.iload 4, 2) := by decide +kernel
theorem dX6_wanted_43 : decode cX6_wanted 43 = .ok (.iconst 0, 1) := by decide +kernel
theorem dX6_wanted_44 : decode cX6_wanted 44 = .ok (.aload_n 2, 1) := by decide +kernel
theorem dX6_wanted_45 : decode cX6_wanted 45 = .ok (.iload_n 3, 1) := by decide +kernel
theorem dX6_wanted_46 : decode cX6_wanted 46 = .ok (.invokevirtual 157, 3) := by decide +kernel
theorem dX6_wanted_49 : decode cX6_wanted 49 = .ok (.iconst 1, 1) := by decide +kernel
theorem dX6_wanted_50 : decode cX6_wanted 50 = .ok (.isub, 1) := by decide +kernel
theorem dX6_wanted_51 : decode cX6_wanted 51 = .ok (.invokestatic 54, 3) := by decide +kernel
theorem dX6_wanted_54 : decode cX6_wanted 54 = .ok (.ifCond .eq 11, 3) := by decide +kernel
theorem dX6_wanted_57 : decode cX6_wanted 57 = .ok (.aload_n 2, 1) := by decide +kernel
theorem dX6_wanted_58 : decode cX6_wanted 58 = .ok (.iload_n 3, 1) := by decide +kernel
theorem dX6_wanted_59 : decode cX6_wanted 59 = .ok (.iload 4, 2) := by decide +kernel
theorem dX6_wanted_61 : decode cX6_wanted 61 = .ok (.invokevirtual 191, 3) := by decide +kernel
theorem dX6_wanted_64 : decode cX6_wanted 64 = .ok (.ireturn, 1) := by decide +kernel
theorem dX6_wanted_65 : decode cX6_wanted 65 = .ok (.iinc 3 1, 3) := by decide +kernel
theorem dX6_wanted_68 : decode cX6_wanted 68 = .ok (.goto (-44), 3) := by decide +kernel
theorem dX6_wanted_71 : decode cX6_wanted 71 = .ok (.bipush (-5), 2) := by decide +kernel
theorem dX6_wanted_73 : decode cX6_wanted 73 = .ok (.ireturn, 1) := by decide +kernel
theorem dX6_sung_0 : decode cX6_sung 0 = .ok (.iload_n 1, 1) := by decide +kernel
theorem dX6_sung_1 : decode cX6_sung 1 = .ok (.iconst 0, 1) := by decide +kernel
theorem dX6_sung_2 : decode cX6_sung 2 = .ok (.sipush 599, 3) := by decide +kernel
theorem dX6_sung_5 : decode cX6_sung 5 = .ok (.invokestatic 54, 3) := by decide +kernel
theorem dX6_sung_8 : decode cX6_sung 8 = .ok (.ifCond .ne 6, 3) := by decide +kernel
theorem dX6_sung_11 : decode cX6_sung 11 = .ok (.bipush (-2), 2) := by decide +kernel
theorem dX6_sung_13 : decode cX6_sung 13 = .ok (.ireturn, 1) := by decide +kernel
theorem dX6_sung_14 : decode cX6_sung 14 = .ok (.aload_n 0, 1) := by decide +kernel
theorem dX6_sung_15 : decode cX6_sung 15 = .ok (.getfield 10, 3) := by decide +kernel
theorem dX6_sung_18 : decode cX6_sung 18 = .ok (.iload_n 1, 1) := by decide +kernel
theorem dX6_sung_19 : decode cX6_sung 19 = .ok (.invokevirtual 194, 3) := by decide +kernel
theorem dX6_sung_22 : decode cX6_sung 22 = .ok (.istore_n 2, 1) := by decide +kernel
theorem dX6_sung_23 : decode cX6_sung 23 = .ok (.iload_n 2, 1) := by decide +kernel
theorem dX6_sung_24 : decode cX6_sung 24 = .ok (.iconst (-1), 1) := by decide +kernel
theorem dX6_sung_25 : decode cX6_sung 25 = .ok (.if_icmp .ne 8, 3) := by decide +kernel
theorem dX6_sung_28 : decode cX6_sung 28 = .ok (.bipush (-5), 2) := by decide +kernel
theorem dX6_sung_30 : decode cX6_sung 30 = .ok (.goto 4, 3) := by decide +kernel
theorem dX6_sung_33 : decode cX6_sung 33 = .ok (.iload_n 2, 1) := by decide +kernel
theorem dX6_sung_34 : decode cX6_sung 34 = .ok (.ireturn, 1) := by decide +kernel
theorem dX6_lit_0 : decode cX6_lit 0 = .ok (.aload_n 0, 1) := by decide +kernel
theorem dX6_lit_1 : decode cX6_lit 1 = .ok (.getfield 10, 3) := by decide +kernel
theorem dX6_lit_4 : decode cX6_lit 4 = .ok (.getfield 58, 3) := by decide +kernel
theorem dX6_lit_7 : decode cX6_lit 7 = .ok (.iload_n 1, 1) := by decide +kernel
theorem dX6_lit_8 : decode cX6_lit 8 = .ok (.invokevirtual 129, 3) := by decide +kernel
theorem dX6_lit_11 : decode cX6_lit 11 = .ok (.ifCond .ne 5, 3) := by decide +kernel
theorem dX6_lit_14 : decode cX6_lit 14 = .ok (.iconst (-1), 1) := by decide +kernel
theorem dX6_lit_15 : decode cX6_lit 15 = .ok (.ireturn, 1) := by decide +kernel
theorem dX6_lit_16 : decode cX6_lit 16 = .ok (.iload_n 2, 1) := by decide +kernel
theorem dX6_lit_17 : decode cX6_lit 17 = .ok (.iconst 0, 1) := by decide +kernel
theorem dX6_lit_18 : decode cX6_lit 18 = .ok (.sipush 599, 3) := by decide +kernel
theorem dX6_lit_21 : decode cX6_lit 21 = .ok (.invokestatic 54, 3) := by decide +kernel
theorem dX6_lit_24 : decode cX6_lit 24 = .ok (.ifCond .ne 6, 3) := by decide +kernel
theorem dX6_lit_27 : decode cX6_lit 27 = .ok (.bipush (-2), 2) := by decide +kernel
theorem dX6_lit_29 : decode cX6_lit 29 = .ok (.ireturn, 1) := by decide +kernel
theorem dX6_lit_30 : decode cX6_lit 30 = .ok (.iload_n 2, 1) := by decide +kernel
theorem dX6_lit_31 : decode cX6_lit 31 = .ok (.aload_n 0, 1) := by decide +kernel
theorem dX6_lit_32 : decode cX6_lit 32 = .ok (.getfield 10, 3) := by decide +kernel
theorem dX6_lit_35 : decode cX6_lit 35 = .ok (.getfield 58, 3) := by decide +kernel
theorem dX6_lit_38 : decode cX6_lit 38 = .ok (.iload_n 1, 1) := by decide +kernel
theorem dX6_lit_39 : decode cX6_lit 39 = .ok (.invokevirtual 154, 3) := by decide +kernel
theorem dX6_lit_42 : decode cX6_lit 42 = .ok (.isub, 1) := by decide +kernel
theorem dX6_lit_43 : decode cX6_lit 43 = .ok (.iconst 1, 1) := by decide +kernel
theorem dX6_lit_44 : decode cX6_lit 44 = .ok (.iadd, 1) := by decide +kernel
theorem dX6_lit_45 : decode cX6_lit 45 = .ok (.istore_n 3, 1) := by decide +kernel
theorem dX6_lit_46 : decode cX6_lit 46 = .ok (.iconst 0, 1) := by decide +kernel
theorem dX6_lit_47 : decode cX6_lit 47 = .ok (.aload_n 0, 1) := by decide +kernel
theorem dX6_lit_48 : decode cX6_lit 48 = .ok (.getfield 10, 3) := by decide +kernel
theorem dX6_lit_51 : decode cX6_lit 51 = .ok (.getfield 58, 3) := by decide +kernel
theorem dX6_lit_54 : decode cX6_lit 54 = .ok (.iload_n 1, 1) := by decide +kernel
theorem dX6_lit_55 : decode cX6_lit 55 = .ok (.invokevirtual 157, 3) := by decide +kernel
theorem dX6_lit_58 : decode cX6_lit 58 = .ok (.iload_n 3, 1) := by decide +kernel
theorem dX6_lit_59 : decode cX6_lit 59 = .ok (.invokestatic 197, 3) := by decide +kernel
theorem dX6_lit_62 : decode cX6_lit 62 = .ok (.invokestatic 202, 3) := by decide +kernel
theorem dX6_lit_65 : decode cX6_lit 65 = .ok (.ireturn, 1) := by decide +kernel
theorem dX6_phrase_0 : decode cX6_phrase 0 = .ok (.iload_n 1, 1) := by decide +kernel
theorem dX6_phrase_1 : decode cX6_phrase 1 = .ok (.iconst 0, 1) := by decide +kernel
theorem dX6_phrase_2 : decode cX6_phrase 2 = .ok (.aload_n 0, 1) := by decide +kernel
theorem dX6_phrase_3 : decode cX6_phrase 3 = .ok (.getfield 10, 3) := by decide +kernel
theorem dX6_phrase_6 : decode cX6_phrase 6 = .ok (.getfield 58, 3) := by decide +kernel
theorem dX6_phrase_9 : decode cX6_phrase 9 = .ok (.invokevirtual 205, 3) := by decide +kernel
theorem dX6_phrase_12 : decode cX6_phrase 12 = .ok (.iconst 1, 1) := by decide +kernel
theorem dX6_phrase_13 : decode cX6_phrase 13 = .ok (.isub, 1) := by decide +kernel
theorem dX6_phrase_14 : decode cX6_phrase 14 = .ok (.invokestatic 54, 3) := by decide +kernel
theorem dX6_phrase_17 : decode cX6_phrase 17 = .ok (.ifCond .ne 5, 3) := by decide +kernel
theorem dX6_phrase_20 : decode cX6_phrase 20 = .ok (.iconst (-1), 1) := by decide +kernel
theorem dX6_phrase_21 : decode cX6_phrase 21 = .ok (.ireturn, 1) := by decide +kernel
theorem dX6_phrase_22 : decode cX6_phrase 22 = .ok (.iload_n 2, 1) := by decide +kernel
theorem dX6_phrase_23 : decode cX6_phrase 23 = .ok (.iconst 0, 1) := by decide +kernel
theorem dX6_phrase_24 : decode cX6_phrase 24 = .ok (.iconst 4, 1) := by decide +kernel
theorem dX6_phrase_25 : decode cX6_phrase 25 = .ok (.invokestatic 54, 3) := by decide +kernel
theorem dX6_phrase_28 : decode cX6_phrase 28 = .ok (.ifCond .ne 6, 3) := by decide +kernel
theorem dX6_phrase_31 : decode cX6_phrase 31 = .ok (.bipush (-2), 2) := by decide +kernel
theorem dX6_phrase_33 : decode cX6_phrase 33 = .ok (.ireturn, 1) := by decide +kernel
theorem dX6_phrase_34 : decode cX6_phrase 34 = .ok (.aload_n 0, 1) := by decide +kernel
theorem dX6_phrase_35 : decode cX6_phrase 35 = .ok (.getfield 50, 3) := by decide +kernel
theorem dX6_phrase_38 : decode cX6_phrase 38 = .ok (.aload_n 0, 1) := by decide +kernel
theorem dX6_phrase_39 : decode cX6_phrase 39 = .ok (.getfield 10, 3) := by decide +kernel
theorem dX6_phrase_42 : decode cX6_phrase 42 = .ok (.invokevirtual 152, 3) := by decide +kernel
theorem dX6_phrase_45 : decode cX6_phrase 45 = .ok (.iload_n 2, 1) := by decide +kernel
theorem dX6_phrase_46 : decode cX6_phrase 46 = .ok (.tableswitch 72 0 3 #[30, 42, 54, 63], 30) := by decide +kernel
theorem dX6_phrase_76 : decode cX6_phrase 76 = .ok (.aload_n 0, 1) := by decide +kernel
theorem dX6_phrase_77 : decode cX6_phrase 77 = .ok (.getfield 10, 3) := by decide +kernel
theorem dX6_phrase_80 : decode cX6_phrase 80 = .ok (.getfield 58, 3) := by decide +kernel
theorem dX6_phrase_83 : decode cX6_phrase 83 = .ok (.iload_n 1, 1) := by decide +kernel
theorem dX6_phrase_84 : decode cX6_phrase 84 = .ok (.invokevirtual 208, 3) := by decide +kernel
theorem dX6_phrase_87 : decode cX6_phrase 87 = .ok (.ireturn, 1) := by decide +kernel
theorem dX6_phrase_88 : decode cX6_phrase 88 = .ok (.aload_n 0, 1) := by decide +kernel
theorem dX6_phrase_89 : decode cX6_phrase 89 = .ok (.getfield 10, 3) := by decide +kernel
theorem dX6_phrase_92 : decode cX6_phrase 92 = .ok (.getfield 58, 3) := by decide +kernel
theorem dX6_phrase_95 : decode cX6_phrase 95 = .ok (.iload_n 1, 1) := by decide +kernel
theorem dX6_phrase_96 : decode cX6_phrase 96 = .ok (.invokevirtual 211, 3) := by decide +kernel
theorem dX6_phrase_99 : decode cX6_phrase 99 = .ok (.ireturn, 1) := by decide +kernel
theorem dX6_phrase_100 : decode cX6_phrase 100 = .ok (.aload_n 0, 1) := by decide +kernel
theorem dX6_phrase_101 : decode cX6_phrase 101 = .ok (.getfield 50, 3) := by decide +kernel
theorem dX6_phrase_104 : decode cX6_phrase 104 = .ok (.iload_n 1, 1) := by decide +kernel
theorem dX6_phrase_105 : decode cX6_phrase 105 = .ok (.invokevirtual 214, 3) := by decide +kernel
theorem dX6_phrase_108 : decode cX6_phrase 108 = .ok (.ireturn, 1) := by decide +kernel
theorem dX6_phrase_109 : decode cX6_phrase 109 = .ok (.aload_n 0, 1) := by decide +kernel
theorem dX6_phrase_110 : decode cX6_phrase 110 = .ok (.getfield 50, 3) := by decide +kernel
theorem dX6_phrase_113 : decode cX6_phrase 113 = .ok (.iload_n 1, 1) := by decide +kernel
theorem dX6_phrase_114 : decode cX6_phrase 114 = .ok (.invokevirtual 217, 3) := by decide +kernel
theorem dX6_phrase_117 : decode cX6_phrase 117 = .ok (.ireturn, 1) := by decide +kernel
theorem dX6_phrase_118 : decode cX6_phrase 118 = .ok (.aload_n 0, 1) := by decide +kernel
theorem dX6_phrase_119 : decode cX6_phrase 119 = .ok (.getfield 50, 3) := by decide +kernel
theorem dX6_phrase_122 : decode cX6_phrase 122 = .ok (.iload_n 1, 1) := by decide +kernel
theorem dX6_phrase_123 : decode cX6_phrase 123 = .ok (.invokevirtual 220, 3) := by decide +kernel
theorem dX6_phrase_126 : decode cX6_phrase 126 = .ok (.ireturn, 1) := by decide +kernel
theorem dX6_total_0 : decode cX6_total 0 = .ok (.iload_n 1, 1) := by decide +kernel
theorem dX6_total_1 : decode cX6_total 1 = .ok (.iconst 0, 1) := by decide +kernel
theorem dX6_total_2 : decode cX6_total 2 = .ok (.bipush 14, 2) := by decide +kernel
theorem dX6_total_4 : decode cX6_total 4 = .ok (.invokestatic 54, 3) := by decide +kernel
theorem dX6_total_7 : decode cX6_total 7 = .ok (.ifCond .ne 6, 3) := by decide +kernel
theorem dX6_total_10 : decode cX6_total 10 = .ok (.bipush (-2), 2) := by decide +kernel
theorem dX6_total_12 : decode cX6_total 12 = .ok (.ireturn, 1) := by decide +kernel
theorem dX6_total_13 : decode cX6_total 13 = .ok (.iload_n 1, 1) := by decide +kernel
theorem dX6_total_14 : decode cX6_total 14 = .ok (.invokestatic 101, 3) := by decide +kernel
theorem dX6_total_17 : decode cX6_total 17 = .ok (.ifCond .eq 12, 3) := by decide +kernel
theorem dX6_total_20 : decode cX6_total 20 = .ok (.aload_n 0, 1) := by decide +kernel
theorem dX6_total_21 : decode cX6_total 21 = .ok (.getfield 10, 3) := by decide +kernel
theorem dX6_total_24 : decode cX6_total 24 = .ok (.iload_n 1, 1) := by decide +kernel
theorem dX6_total_25 : decode cX6_total 25 = .ok (.invokevirtual 108, 3) := by decide +kernel
theorem dX6_total_28 : decode cX6_total 28 = .ok (.ireturn, 1) := by decide +kernel
theorem dX6_total_29 : decode cX6_total 29 = .ok (.iload_n 1, 1) := by decide +kernel
theorem dX6_total_30 : decode cX6_total 30 = .ok (.tableswitch 126 5 13 #[50, 61, 72, 83, 91, 99, 104, 113, 118], 50) := by decide +kernel
theorem dX6_total_80 : decode cX6_total 80 = .ok (.aload_n 0, 1) := by decide +kernel
theorem dX6_total_81 : decode cX6_total 81 = .ok (.getfield 10, 3) := by decide +kernel
theorem dX6_total_84 : decode cX6_total 84 = .ok (.getfield 58, 3) := by decide +kernel
theorem dX6_total_87 : decode cX6_total 87 = .ok (.invokevirtual 76, 3) := by decide +kernel
theorem dX6_total_90 : decode cX6_total 90 = .ok (.ireturn, 1) := by decide +kernel
theorem dX6_total_91 : decode cX6_total 91 = .ok (.aload_n 0, 1) := by decide +kernel
theorem dX6_total_92 : decode cX6_total 92 = .ok (.getfield 10, 3) := by decide +kernel
theorem dX6_total_95 : decode cX6_total 95 = .ok (.getfield 58, 3) := by decide +kernel
theorem dX6_total_98 : decode cX6_total 98 = .ok (.invokevirtual 205, 3) := by decide +kernel
theorem dX6_total_101 : decode cX6_total 101 = .ok (.ireturn, 1) := by decide +kernel
theorem dX6_total_102 : decode cX6_total 102 = .ok (.aload_n 0, 1) := by decide +kernel
theorem dX6_total_103 : decode cX6_total 103 = .ok (.getfield 10, 3) := by decide +kernel
theorem dX6_total_106 : decode cX6_total 106 = .ok (.getfield 58, 3) := by decide +kernel
theorem dX6_total_109 : decode cX6_total 109 = .ok (.invokevirtual 223, 3) := by decide +kernel
theorem dX6_total_112 : decode cX6_total 112 = .ok (.ireturn, 1) := by decide +kernel
theorem dX6_total_113 : decode cX6_total 113 = .ok (.aload_n 0, 1) := by decide +kernel
theorem dX6_total_114 : decode cX6_total 114 = .ok (.getfield 10, 3) := by decide +kernel
theorem dX6_total_117 : decode cX6_total 117 = .ok (.invokevirtual 126, 3) := by decide +kernel
theorem dX6_total_120 : decode cX6_total 120 = .ok (.ireturn, 1) := by decide +kernel
theorem dX6_total_121 : decode cX6_total 121 = .ok (.aload_n 0, 1) := by decide +kernel
theorem dX6_total_122 : decode cX6_total 122 = .ok (.getfield 10, 3) := by decide +kernel
theorem dX6_total_125 : decode cX6_total 125 = .ok (.invokevirtual 226, 3) := by decide +kernel
theorem dX6_total_128 : decode cX6_total 128 = .ok (.ireturn, 1) := by decide +kernel
theorem dX6_total_129 : decode cX6_total 129 = .ok (.aload_n 0, 1) := by decide +kernel
theorem dX6_total_130 : decode cX6_total 130 = .ok (.invokevirtual 123, 3) := by decide +kernel
theorem dX6_total_133 : decode cX6_total 133 = .ok (.ireturn, 1) := by decide +kernel
theorem dX6_total_134 : decode cX6_total 134 = .ok (.aload_n 0, 1) := by decide +kernel
theorem dX6_total_135 : decode cX6_total 135 = .ok (.aload_n 0, 1) := by decide +kernel
theorem dX6_total_136 : decode cX6_total 136 = .ok (.getfield 10, 3) := by decide +kernel
theorem dX6_total_139 : decode cX6_total 139 = .ok (.invokevirtual 229, 3) := by decide +kernel
theorem dX6_total_142 : decode cX6_total 142 = .ok (.ireturn, 1) := by decide +kernel
theorem dX6_total_143 : decode cX6_total 143 = .ok (.aload_n 0, 1) := by decide +kernel
theorem dX6_total_144 : decode cX6_total 144 = .ok (.invokevirtual 231, 3) := by decide +kernel
theorem dX6_total_147 : decode cX6_total 147 = .ok (.ireturn, 1) := by decide +kernel
theorem dX6_total_148 : decode cX6_total 148 = .ok (.aload_n 0, 1) := by decide +kernel
theorem dX6_total_149 : decode cX6_total 149 = .ok (.getfield 29, 3) := by decide +kernel
theorem dX6_total_152 : decode cX6_total 152 = .ok (.invokevirtual 145, 3) := by decide +kernel
theorem dX6_total_155 : decode cX6_total 155 = .ok (.ireturn, 1) := by decide +kernel
theorem dX6_total_156 : decode cX6_total 156 = .ok (.aload_n 0, 1) := by decide +kernel
theorem dX6_total_157 : decode cX6_total 157 = .ok (.getfield 36, 3) := by decide +kernel
theorem dX6_total_160 : decode cX6_total 160 = .ok (.invokevirtual 234, 3) := by decide +kernel
theorem dX6_total_163 : decode cX6_total 163 = .ok (.ireturn, 1) := by decide +kernel
theorem dX6_ifShifted_0 : decode cX6_ifShifted 0 = .ok (.iload_n 1, 1) := by decide +kernel
theorem dX6_ifShifted_1 : decode cX6_ifShifted 1 = .ok (.bipush (-32), 2) := by decide +kernel
theorem dX6_ifShifted_3 : decode cX6_ifShifted 3 = .ok (.bipush 32, 2) := by decide +kernel
theorem dX6_ifShifted_5 : decode cX6_ifShifted 5 = .ok (.invokestatic 54, 3) := by decide +kernel
theorem dX6_ifShifted_8 : decode cX6_ifShifted 8 = .ok (.ifCond .eq 14, 3) := by decide +kernel
theorem dX6_ifShifted_11 : decode cX6_ifShifted 11 = .ok (.iload_n 2, 1) := by decide +kernel
theorem dX6_ifShifted_12 : decode cX6_ifShifted 12 = .ok (.bipush (-60), 2) := by decide +kernel
theorem dX6_ifShifted_14 : decode cX6_ifShifted 14 = .ok (.bipush 60, 2) := by decide +kernel
theorem dX6_ifShifted_16 : decode cX6_ifShifted 16 = .ok (.invokestatic 54, 3) := by decide +kernel
theorem dX6_ifShifted_19 : decode cX6_ifShifted 19 = .ok (.ifCond .ne 6, 3) := by decide +kernel
theorem dX6_ifShifted_22 : decode cX6_ifShifted 22 = .ok (.bipush (-2), 2) := by decide +kernel
theorem dX6_ifShifted_24 : decode cX6_ifShifted 24 = .ok (.ireturn, 1) := by decide +kernel
theorem dX6_ifShifted_25 : decode cX6_ifShifted 25 = .ok (.aload_n 0, 1) := by decide +kernel
theorem dX6_ifShifted_26 : decode cX6_ifShifted 26 = .ok (.getfield 16, 3) := by decide +kernel
theorem dX6_ifShifted_29 : decode cX6_ifShifted 29 = .ok (.aload_n 0, 1) := by decide +kernel
theorem dX6_ifShifted_30 : decode cX6_ifShifted 30 = .ok (.getfield 10, 3) := by decide +kernel
theorem dX6_ifShifted_33 : decode cX6_ifShifted 33 = .ok (.invokevirtual 150, 3) := by decide +kernel
theorem dX6_ifShifted_36 : decode cX6_ifShifted 36 = .ok (.aload_n 0, 1) := by decide +kernel
theorem dX6_ifShifted_37 : decode cX6_ifShifted 37 = .ok (.iload_n 1, 1) := by decide +kernel
theorem dX6_ifShifted_38 : decode cX6_ifShifted 38 = .ok (.iload_n 2, 1) := by decide +kernel
theorem dX6_ifShifted_39 : decode cX6_ifShifted 39 = .ok (.invokevirtual 235, 3) := by decide +kernel
theorem dX6_ifShifted_42 : decode cX6_ifShifted 42 = .ok (.ireturn, 1) := by decide +kernel
theorem dX6_bestShift_0 : decode cX6_bestShift 0 = .ok (.aload_n 0, 1) := by decide +kernel
theorem dX6_bestShift_1 : decode cX6_bestShift 1 = .ok (.getfield 16, 3) := by decide +kernel
theorem dX6_bestShift_4 : decode cX6_bestShift 4 = .ok (.aload_n 0, 1) := by decide +kernel
theorem dX6_bestShift_5 : decode cX6_bestShift 5 = .ok (.getfield 10, 3) := by decide +kernel
theorem dX6_bestShift_8 : decode cX6_bestShift 8 = .ok (.invokevirtual 150, 3) := by decide +kernel
theorem dX6_bestShift_11 : decode cX6_bestShift 11 = .ok (.iconst 0, 1) := by decide +kernel
theorem dX6_bestShift_12 : decode cX6_bestShift 12 = .ok (.istore_n 1, 1) := by decide +kernel
theorem dX6_bestShift_13 : decode cX6_bestShift 13 = .ok (.aload_n 0, 1) := by decide +kernel
theorem dX6_bestShift_14 : decode cX6_bestShift 14 = .ok (.iconst 0, 1) := by decide +kernel
theorem dX6_bestShift_15 : decode cX6_bestShift 15 = .ok (.iconst 0, 1) := by decide +kernel
theorem dX6_bestShift_16 : decode cX6_bestShift 16 = .ok (.invokevirtual 235, 3) := by decide +kernel
theorem dX6_bestShift_19 : decode cX6_bestShift 19 = .ok (.istore_n 2, 1) := by decide +kernel
theorem dX6_bestShift_20 : decode cX6_bestShift 20 = .ok (.iconst 1, 1) := by decide +kernel
theorem dX6_bestShift_21 : decode cX6_bestShift 21 = .ok (.istore_n 3, 1) := by decide +kernel
theorem dX6_bestShift_22 : decode cX6_bestShift 22 = .ok (.iload_n 3, 1) := by decide +kernel
theorem dX6_bestShift_23 : decode cX6_bestShift 23 = .ok (.bipush 32, 2) := by decide +kernel
theorem dX6_bestShift_25 : decode cX6_bestShift 25 = .ok (.if_icmp .gt 49, 3) := by decide +kernel
theorem dX6_bestShift_28 : decode cX6_bestShift 28 = .ok (.aload_n 0, 1) := by decide +kernel
theorem dX6_bestShift_29 : decode cX6_bestShift 29 = .ok (.iload_n 3, 1) := by decide +kernel
theorem dX6_bestShift_30 : decode cX6_bestShift 30 = .ok (.ineg, 1) := by decide +kernel
theorem dX6_bestShift_31 : decode cX6_bestShift 31 = .ok (.iconst 0, 1) := by decide +kernel
theorem dX6_bestShift_32 : decode cX6_bestShift 32 = .ok (.invokevirtual 235, 3) := by decide +kernel
theorem dX6_bestShift_35 : decode cX6_bestShift 35 = .ok (.istore 4, 2) := by decide +kernel
theorem dX6_bestShift_37 : decode cX6_bestShift 37 = .ok (.iload 4, 2) := by decide +kernel
theorem dX6_bestShift_39 : decode cX6_bestShift 39 = .ok (.iload_n 2, 1) := by decide +kernel
theorem dX6_bestShift_40 : decode cX6_bestShift 40 = .ok (.if_icmp .le 9, 3) := by decide +kernel
theorem dX6_bestShift_43 : decode cX6_bestShift 43 = .ok (.iload 4, 2) := by decide +kernel
theorem dX6_bestShift_45 : decode cX6_bestShift 45 = .ok (.istore_n 2, 1) := by decide +kernel
theorem dX6_bestShift_46 : decode cX6_bestShift 46 = .ok (.iload_n 3, 1) := by decide +kernel
theorem dX6_bestShift_47 : decode cX6_bestShift 47 = .ok (.ineg, 1) := by decide +kernel
theorem dX6_bestShift_48 : decode cX6_bestShift 48 = .ok (.istore_n 1, 1) := by decide +kernel
theorem dX6_bestShift_49 : decode cX6_bestShift 49 = .ok (.aload_n 0, 1) := by decide +kernel
theorem dX6_bestShift_50 : decode cX6_bestShift 50 = .ok (.iload_n 3, 1) := by decide +kernel
theorem dX6_bestShift_51 : decode cX6_bestShift 51 = .ok (.iconst 0, 1) := by decide +kernel
theorem dX6_bestShift_52 : decode cX6_bestShift 52 = .ok (.invokevirtual 235, 3) := by decide +kernel
theorem dX6_bestShift_55 : decode cX6_bestShift 55 = .ok (.istore 5, 2) := by decide +kernel
theorem dX6_bestShift_57 : decode cX6_bestShift 57 = .ok (.iload 5, 2) := by decide +kernel
theorem dX6_bestShift_59 : decode cX6_bestShift 59 = .ok (.iload_n 2, 1) := by decide +kernel
theorem dX6_bestShift_60 : decode cX6_bestShift 60 = .ok (.if_icmp .le 8, 3) := by decide +kernel
theorem dX6_bestShift_63 : decode cX6_bestShift 63 = .ok (.iload 5, 2) := by decide +kernel
theorem dX6_bestShift_65 : decode cX6_bestShift 65 = .ok (.istore_n 2, 1) := by decide +kernel
theorem dX6_bestShift_66 : decode cX6_bestShift 66 = .ok (.iload_n 3, 1) := by decide +kernel
theorem dX6_bestShift_67 : decode cX6_bestShift 67 = .ok (.istore_n 1, 1) := by decide +kernel
theorem dX6_bestShift_68 : decode cX6_bestShift 68 = .ok (.iinc 3 1, 3) := by decide +kernel
theorem dX6_bestShift_71 : decode cX6_bestShift 71 = .ok (.goto (-49), 3) := by decide +kernel
theorem dX6_bestShift_74 : decode cX6_bestShift 74 = .ok (.iload_n 1, 1) := by decide +kernel
theorem dX6_bestShift_75 : decode cX6_bestShift 75 = .ok (.bipush 32, 2) := by decide +kernel
theorem dX6_bestShift_77 : decode cX6_bestShift 77 = .ok (.iadd, 1) := by decide +kernel
theorem dX6_bestShift_78 : decode cX6_bestShift 78 = .ok (.ireturn, 1) := by decide +kernel
theorem dX6_ifSet_0 : decode cX6_ifSet 0 = .ok (.iload_n 1, 1) := by decide +kernel
theorem dX6_ifSet_1 : decode cX6_ifSet 1 = .ok (.invokestatic 101, 3) := by decide +kernel
theorem dX6_ifSet_4 : decode cX6_ifSet 4 = .ok (.ifCond .ne 5, 3) := by decide +kernel
theorem dX6_ifSet_7 : decode cX6_ifSet 7 = .ok (.iconst (-1), 1) := by decide +kernel
theorem dX6_ifSet_8 : decode cX6_ifSet 8 = .ok (.ireturn, 1) := by decide +kernel
theorem dX6_ifSet_9 : decode cX6_ifSet 9 = .ok (.iload_n 1, 1) := by decide +kernel
theorem dX6_ifSet_10 : decode cX6_ifSet 10 = .ok (.iload_n 2, 1) := by decide +kernel
theorem dX6_ifSet_11 : decode cX6_ifSet 11 = .ok (.invokestatic 105, 3) := by decide +kernel
theorem dX6_ifSet_14 : decode cX6_ifSet 14 = .ok (.ifCond .ne 6, 3) := by decide +kernel
theorem dX6_ifSet_17 : decode cX6_ifSet 17 = .ok (.bipush (-2), 2) := by decide +kernel
theorem dX6_ifSet_19 : decode cX6_ifSet 19 = .ok (.ireturn, 1) := by decide +kernel
theorem dX6_ifSet_20 : decode cX6_ifSet 20 = .ok (.aload_n 0, 1) := by decide +kernel
theorem dX6_ifSet_21 : decode cX6_ifSet 21 = .ok (.getfield 16, 3) := by decide +kernel
theorem dX6_ifSet_24 : decode cX6_ifSet 24 = .ok (.aload_n 0, 1) := by decide +kernel
theorem dX6_ifSet_25 : decode cX6_ifSet 25 = .ok (.getfield 10, 3) := by decide +kernel
theorem dX6_ifSet_28 : decode cX6_ifSet 28 = .ok (.invokevirtual 150, 3) := by decide +kernel
theorem dX6_ifSet_31 : decode cX6_ifSet 31 = .ok (.aload_n 0, 1) := by decide +kernel
theorem dX6_ifSet_32 : decode cX6_ifSet 32 = .ok (.getfield 16, 3) := by decide +kernel
theorem dX6_ifSet_35 : decode cX6_ifSet 35 = .ok (.iload_n 1, 1) := by decide +kernel
theorem dX6_ifSet_36 : decode cX6_ifSet 36 = .ok (.iload_n 2, 1) := by decide +kernel
theorem dX6_ifSet_37 : decode cX6_ifSet 37 = .ok (.invokevirtual 112, 3) := by decide +kernel
theorem dX6_ifSet_40 : decode cX6_ifSet 40 = .ok (.aload_n 0, 1) := by decide +kernel
theorem dX6_ifSet_41 : decode cX6_ifSet 41 = .ok (.aload_n 0, 1) := by decide +kernel
theorem dX6_ifSet_42 : decode cX6_ifSet 42 = .ok (.getfield 16, 3) := by decide +kernel
theorem dX6_ifSet_45 : decode cX6_ifSet 45 = .ok (.invokevirtual 229, 3) := by decide +kernel
theorem dX6_ifSet_48 : decode cX6_ifSet 48 = .ok (.ireturn, 1) := by decide +kernel
theorem dX6_worst_0 : decode cX6_worst 0 = .ok (.aload_n 0, 1) := by decide +kernel
theorem dX6_worst_1 : decode cX6_worst 1 = .ok (.getfield 10, 3) := by decide +kernel
theorem dX6_worst_4 : decode cX6_worst 4 = .ok (.getfield 58, 3) := by decide +kernel
theorem dX6_worst_7 : decode cX6_worst 7 = .ok (.invokevirtual 205, 3) := by decide +kernel
theorem dX6_worst_10 : decode cX6_worst 10 = .ok (.istore_n 1, 1) := by decide +kernel
theorem dX6_worst_11 : decode cX6_worst 11 = .ok (.iload_n 1, 1) := by decide +kernel
theorem dX6_worst_12 : decode cX6_worst 12 = .ok (.ifCond .ne 6, 3) := by decide +kernel
theorem dX6_worst_15 : decode cX6_worst 15 = .ok (.bipush (-5), 2) := by decide +kernel
theorem dX6_worst_17 : decode cX6_worst 17 = .ok (.ireturn, 1) := by decide +kernel
theorem dX6_worst_18 : decode cX6_worst 18 = .ok (.aload_n 0, 1) := by decide +kernel
theorem dX6_worst_19 : decode cX6_worst 19 = .ok (.getfield 50, 3) := by decide +kernel
theorem dX6_worst_22 : decode cX6_worst 22 = .ok (.aload_n 0, 1) := by decide +kernel
theorem dX6_worst_23 : decode cX6_worst 23 = .ok (.getfield 10, 3) := by decide +kernel
theorem dX6_worst_26 : decode cX6_worst 26 = .ok (.invokevirtual 152, 3) := by decide +kernel
theorem dX6_worst_29 : decode cX6_worst 29 = .ok (.iconst 0, 1) := by decide +kernel
theorem dX6_worst_30 : decode cX6_worst 30 = .ok (.istore_n 2, 1) := by decide +kernel
theorem dX6_worst_31 : decode cX6_worst 31 = .ok (.iconst 1, 1) := by decide +kernel
theorem dX6_worst_32 : decode cX6_worst 32 = .ok (.istore_n 3, 1) := by decide +kernel
theorem dX6_worst_33 : decode cX6_worst 33 = .ok (.iload_n 3, 1) := by decide +kernel
theorem dX6_worst_34 : decode cX6_worst 34 = .ok (.iload_n 1, 1) := by decide +kernel
theorem dX6_worst_35 : decode cX6_worst 35 = .ok (.if_icmp .ge 30, 3) := by decide +kernel
theorem dX6_worst_38 : decode cX6_worst 38 = .ok (.aload_n 0, 1) := by decide +kernel
theorem dX6_worst_39 : decode cX6_worst 39 = .ok (.getfield 50, 3) := by decide +kernel
theorem dX6_worst_42 : decode cX6_worst 42 = .ok (.iload_n 3, 1) := by decide +kernel
theorem dX6_worst_43 : decode cX6_worst 43 = .ok (.invokevirtual 217, 3) := by decide +kernel
theorem dX6_worst_46 : decode cX6_worst 46 = .ok (.aload_n 0, 1) := by decide +kernel
theorem dX6_worst_47 : decode cX6_worst 47 = .ok (.getfield 50, 3) := by decide +kernel
theorem dX6_worst_50 : decode cX6_worst 50 = .ok (.iload_n 2, 1) := by decide +kernel
theorem dX6_worst_51 : decode cX6_worst 51 = .ok (.invokevirtual 217, 3) := by decide +kernel
theorem dX6_worst_54 : decode cX6_worst 54 = .ok (.if_icmp .ge 5, 3) := by decide +kernel
theorem dX6_worst_57 : decode cX6_worst 57 = .ok (.iload_n 3, 1) := by decide +kernel
theorem dX6_worst_58 : decode cX6_worst 58 = .ok (.istore_n 2, 1) := by decide +kernel
theorem dX6_worst_59 : decode cX6_worst 59 = .ok (.iinc 3 1, 3) := by decide +kernel
theorem dX6_worst_62 : decode cX6_worst 62 = .ok (.goto (-29), 3) := by decide +kernel
theorem dX6_worst_65 : decode cX6_worst 65 = .ok (.iload_n 2, 1) := by decide +kernel
theorem dX6_worst_66 : decode cX6_worst 66 = .ok (.ireturn, 1) := by decide +kernel
theorem dX6_isWithin_0 : decode cX6_isWithin 0 = .ok (.iload_n 0, 1) := by decide +kernel
theorem dX6_isWithin_1 : decode cX6_isWithin 1 = .ok (.iload_n 1, 1) := by decide +kernel
theorem dX6_isWithin_2 : decode cX6_isWithin 2 = .ok (.if_icmp .lt 12, 3) := by decide +kernel
theorem dX6_isWithin_5 : decode cX6_isWithin 5 = .ok (.iload_n 0, 1) := by decide +kernel
theorem dX6_isWithin_6 : decode cX6_isWithin 6 = .ok (.iload_n 2, 1) := by decide +kernel
theorem dX6_isWithin_7 : decode cX6_isWithin 7 = .ok (.if_icmp .gt 7, 3) := by decide +kernel
theorem dX6_isWithin_10 : decode cX6_isWithin 10 = .ok (.iconst 1, 1) := by decide +kernel
theorem dX6_isWithin_11 : decode cX6_isWithin 11 = .ok (.goto 4, 3) := by decide +kernel
theorem dX6_isWithin_14 : decode cX6_isWithin 14 = .ok (.iconst 0, 1) := by decide +kernel
theorem dX6_isWithin_15 : decode cX6_isWithin 15 = .ok (.ireturn, 1) := by decide +kernel
theorem dX6_isSetting_0 : decode cX6_isSetting 0 = .ok (.iload_n 0, 1) := by decide +kernel
theorem dX6_isSetting_1 : decode cX6_isSetting 1 = .ok (.iconst 0, 1) := by decide +kernel
theorem dX6_isSetting_2 : decode cX6_isSetting 2 = .ok (.iconst 4, 1) := by decide +kernel
theorem dX6_isSetting_3 : decode cX6_isSetting 3 = .ok (.invokestatic 54, 3) := by decide +kernel
theorem dX6_isSetting_6 : decode cX6_isSetting 6 = .ok (.ireturn, 1) := by decide +kernel
theorem dX6_isValueOf_0 : decode cX6_isValueOf 0 = .ok (.iload_n 0, 1) := by decide +kernel
theorem dX6_isValueOf_1 : decode cX6_isValueOf 1 = .ok (.invokestatic 101, 3) := by decide +kernel
theorem dX6_isValueOf_4 : decode cX6_isValueOf 4 = .ok (.ifCond .eq 24, 3) := by decide +kernel
theorem dX6_isValueOf_7 : decode cX6_isValueOf 7 = .ok (.iload_n 1, 1) := by decide +kernel
theorem dX6_isValueOf_8 : decode cX6_isValueOf 8 = .ok (.getstatic 238, 3) := by decide +kernel
theorem dX6_isValueOf_11 : decode cX6_isValueOf 11 = .ok (.iload_n 0, 1) := by decide +kernel
theorem dX6_isValueOf_12 : decode cX6_isValueOf 12 = .ok (.iaload, 1) := by decide +kernel
theorem dX6_isValueOf_13 : decode cX6_isValueOf 13 = .ok (.getstatic 242, 3) := by decide +kernel
theorem dX6_isValueOf_16 : decode cX6_isValueOf 16 = .ok (.iload_n 0, 1) := by decide +kernel
theorem dX6_isValueOf_17 : decode cX6_isValueOf 17 = .ok (.iaload, 1) := by decide +kernel
theorem dX6_isValueOf_18 : decode cX6_isValueOf 18 = .ok (.invokestatic 54, 3) := by decide +kernel
theorem dX6_isValueOf_21 : decode cX6_isValueOf 21 = .ok (.ifCond .eq 7, 3) := by decide +kernel
theorem dX6_isValueOf_24 : decode cX6_isValueOf 24 = .ok (.iconst 1, 1) := by decide +kernel
theorem dX6_isValueOf_25 : decode cX6_isValueOf 25 = .ok (.goto 4, 3) := by decide +kernel
theorem dX6_isValueOf_28 : decode cX6_isValueOf 28 = .ok (.iconst 0, 1) := by decide +kernel
theorem dX6_isValueOf_29 : decode cX6_isValueOf 29 = .ok (.ireturn, 1) := by decide +kernel
theorem dX6_areTicks_0 : decode cX6_areTicks 0 = .ok (.iload_n 0, 1) := by decide +kernel
theorem dX6_areTicks_1 : decode cX6_areTicks 1 = .ok (.iconst 0, 1) := by decide +kernel
theorem dX6_areTicks_2 : decode cX6_areTicks 2 = .ok (.sipush 599, 3) := by decide +kernel
theorem dX6_areTicks_5 : decode cX6_areTicks 5 = .ok (.invokestatic 54, 3) := by decide +kernel
theorem dX6_areTicks_8 : decode cX6_areTicks 8 = .ok (.ifCond .eq 25, 3) := by decide +kernel
theorem dX6_areTicks_11 : decode cX6_areTicks 11 = .ok (.iload_n 1, 1) := by decide +kernel
theorem dX6_areTicks_12 : decode cX6_areTicks 12 = .ok (.iconst 1, 1) := by decide +kernel
theorem dX6_areTicks_13 : decode cX6_areTicks 13 = .ok (.iload_n 2, 1) := by decide +kernel
theorem dX6_areTicks_14 : decode cX6_areTicks 14 = .ok (.invokestatic 54, 3) := by decide +kernel
theorem dX6_areTicks_17 : decode cX6_areTicks 17 = .ok (.ifCond .eq 16, 3) := by decide +kernel
theorem dX6_areTicks_20 : decode cX6_areTicks 20 = .ok (.iload_n 0, 1) := by decide +kernel
theorem dX6_areTicks_21 : decode cX6_areTicks 21 = .ok (.iload_n 1, 1) := by decide +kernel
theorem dX6_areTicks_22 : decode cX6_areTicks 22 = .ok (.iadd, 1) := by decide +kernel
theorem dX6_areTicks_23 : decode cX6_areTicks 23 = .ok (.sipush 600, 3) := by decide +kernel
theorem dX6_areTicks_26 : decode cX6_areTicks 26 = .ok (.if_icmp .gt 7, 3) := by decide +kernel
theorem dX6_areTicks_29 : decode cX6_areTicks 29 = .ok (.iconst 1, 1) := by decide +kernel
theorem dX6_areTicks_30 : decode cX6_areTicks 30 = .ok (.goto 4, 3) := by decide +kernel
theorem dX6_areTicks_33 : decode cX6_areTicks 33 = .ok (.iconst 0, 1) := by decide +kernel
theorem dX6_areTicks_34 : decode cX6_areTicks 34 = .ok (.ireturn, 1) := by decide +kernel
theorem dX6_hitsNow_0 : decode cX6_hitsNow 0 = .ok (.aload_n 0, 1) := by decide +kernel
theorem dX6_hitsNow_1 : decode cX6_hitsNow 1 = .ok (.getfield 50, 3) := by decide +kernel
theorem dX6_hitsNow_4 : decode cX6_hitsNow 4 = .ok (.aload_n 0, 1) := by decide +kernel
theorem dX6_hitsNow_5 : decode cX6_hitsNow 5 = .ok (.getfield 10, 3) := by decide +kernel
theorem dX6_hitsNow_8 : decode cX6_hitsNow 8 = .ok (.invokevirtual 152, 3) := by decide +kernel
theorem dX6_hitsNow_11 : decode cX6_hitsNow 11 = .ok (.aload_n 0, 1) := by decide +kernel
theorem dX6_hitsNow_12 : decode cX6_hitsNow 12 = .ok (.getfield 50, 3) := by decide +kernel
theorem dX6_hitsNow_15 : decode cX6_hitsNow 15 = .ok (.getfield 245, 3) := by decide +kernel
theorem dX6_hitsNow_18 : decode cX6_hitsNow 18 = .ok (.ireturn, 1) := by decide +kernel
theorem dX6_pointsOf_0 : decode cX6_pointsOf 0 = .ok (.aload_n 0, 1) := by decide +kernel
theorem dX6_pointsOf_1 : decode cX6_pointsOf 1 = .ok (.getfield 50, 3) := by decide +kernel
theorem dX6_pointsOf_4 : decode cX6_pointsOf 4 = .ok (.aload_n 1, 1) := by decide +kernel
theorem dX6_pointsOf_5 : decode cX6_pointsOf 5 = .ok (.invokevirtual 152, 3) := by decide +kernel
theorem dX6_pointsOf_8 : decode cX6_pointsOf 8 = .ok (.aload_n 0, 1) := by decide +kernel
theorem dX6_pointsOf_9 : decode cX6_pointsOf 9 = .ok (.getfield 50, 3) := by decide +kernel
theorem dX6_pointsOf_12 : decode cX6_pointsOf 12 = .ok (.getfield 248, 3) := by decide +kernel
theorem dX6_pointsOf_15 : decode cX6_pointsOf 15 = .ok (.ireturn, 1) := by decide +kernel
theorem dX6_mostPoints_0 : decode cX6_mostPoints 0 = .ok (.aload_n 0, 1) := by decide +kernel
theorem dX6_mostPoints_1 : decode cX6_mostPoints 1 = .ok (.getfield 50, 3) := by decide +kernel
theorem dX6_mostPoints_4 : decode cX6_mostPoints 4 = .ok (.aload_n 0, 1) := by decide +kernel
theorem dX6_mostPoints_5 : decode cX6_mostPoints 5 = .ok (.getfield 10, 3) := by decide +kernel
theorem dX6_mostPoints_8 : decode cX6_mostPoints 8 = .ok (.invokevirtual 251, 3) := by decide +kernel
theorem dX6_mostPoints_11 : decode cX6_mostPoints 11 = .ok (.aload_n 0, 1) := by decide +kernel
theorem dX6_mostPoints_12 : decode cX6_mostPoints 12 = .ok (.getfield 50, 3) := by decide +kernel
theorem dX6_mostPoints_15 : decode cX6_mostPoints 15 = .ok (.getfield 248, 3) := by decide +kernel
theorem dX6_mostPoints_18 : decode cX6_mostPoints 18 = .ok (.ireturn, 1) := by decide +kernel
theorem dX6_pointsIfShifted_0 : decode cX6_pointsIfShifted 0 = .ok (.aload_n 0, 1) := by decide +kernel
theorem dX6_pointsIfShifted_1 : decode cX6_pointsIfShifted 1 = .ok (.getfield 16, 3) := by decide +kernel
theorem dX6_pointsIfShifted_4 : decode cX6_pointsIfShifted 4 = .ok (.aload_n 0, 1) := by decide +kernel
theorem dX6_pointsIfShifted_5 : decode cX6_pointsIfShifted 5 = .ok (.getfield 10, 3) := by decide +kernel
theorem dX6_pointsIfShifted_8 : decode cX6_pointsIfShifted 8 = .ok (.iload_n 1, 1) := by decide +kernel
theorem dX6_pointsIfShifted_9 : decode cX6_pointsIfShifted 9 = .ok (.iload_n 2, 1) := by decide +kernel
theorem dX6_pointsIfShifted_10 : decode cX6_pointsIfShifted 10 = .ok (.invokevirtual 254, 3) := by decide +kernel
theorem dX6_pointsIfShifted_13 : decode cX6_pointsIfShifted 13 = .ok (.aload_n 0, 1) := by decide +kernel
theorem dX6_pointsIfShifted_14 : decode cX6_pointsIfShifted 14 = .ok (.getfield 50, 3) := by decide +kernel
theorem dX6_pointsIfShifted_17 : decode cX6_pointsIfShifted 17 = .ok (.aload_n 0, 1) := by decide +kernel
theorem dX6_pointsIfShifted_18 : decode cX6_pointsIfShifted 18 = .ok (.getfield 16, 3) := by decide +kernel
theorem dX6_pointsIfShifted_21 : decode cX6_pointsIfShifted 21 = .ok (.invokevirtual 152, 3) := by decide +kernel
theorem dX6_pointsIfShifted_24 : decode cX6_pointsIfShifted 24 = .ok (.aload_n 0, 1) := by decide +kernel
theorem dX6_pointsIfShifted_25 : decode cX6_pointsIfShifted 25 = .ok (.getfield 50, 3) := by decide +kernel
theorem dX6_pointsIfShifted_28 : decode cX6_pointsIfShifted 28 = .ok (.getfield 248, 3) := by decide +kernel
theorem dX6_pointsIfShifted_31 : decode cX6_pointsIfShifted 31 = .ok (.ireturn, 1) := by decide +kernel
theorem dX7_init_0 : decode cX7_init 0 = .ok (.aload_n 0, 1) := by decide +kernel
theorem dX7_init_1 : decode cX7_init 1 = .ok (.invokespecial 1, 3) := by decide +kernel
theorem dX7_init_4 : decode cX7_init 4 = .ok (.aload_n 0, 1) := by decide +kernel
theorem dX7_init_5 : decode cX7_init 5 = .ok (.sipush 806, 3) := by decide +kernel
theorem dX7_init_8 : decode cX7_init 8 = .ok (.newarray .int, 2) := by decide +kernel
theorem dX7_init_10 : decode cX7_init 10 = .ok (.putfield 7, 3) := by decide +kernel
theorem dX7_init_13 : decode cX7_init 13 = .ok (.aload_n 0, 1) := by decide +kernel
theorem dX7_init_14 : decode cX7_init 14 = .ok (.sipush 3224, 3) := by decide +kernel
theorem dX7_init_17 : decode cX7_init 17 = .ok (.newarray .int, 2) := by decide +kernel
theorem dX7_init_19 : decode cX7_init 19 = .ok (.putfield 13, 3) := by decide +kernel
theorem dX7_init_22 : decode cX7_init 22 = .ok (.aload_n 0, 1) := by decide +kernel
theorem dX7_init_23 : decode cX7_init 23 = .ok (.sipush 806, 3) := by decide +kernel
theorem dX7_init_26 : decode cX7_init 26 = .ok (.newarray .int, 2) := by decide +kernel
theorem dX7_init_28 : decode cX7_init 28 = .ok (.putfield 16, 3) := by decide +kernel
theorem dX7_init_31 : decode cX7_init 31 = .ok (.aload_n 0, 1) := by decide +kernel
theorem dX7_init_32 : decode cX7_init 32 = .ok (.bipush 60, 2) := by decide +kernel
theorem dX7_init_34 : decode cX7_init 34 = .ok (.newarray .char, 2) := by decide +kernel
theorem dX7_init_36 : decode cX7_init 36 = .ok (.putfield 19, 3) := by decide +kernel
theorem dX7_init_39 : decode cX7_init 39 = .ok (.aload_n 0, 1) := by decide +kernel
theorem dX7_init_40 : decode cX7_init 40 = .ok (.sipush 600, 3) := by decide +kernel
theorem dX7_init_43 : decode cX7_init 43 = .ok (.newarray .int, 2) := by decide +kernel
theorem dX7_init_45 : decode cX7_init 45 = .ok (.putfield 23, 3) := by decide +kernel
theorem dX7_init_48 : decode cX7_init 48 = .ok (.aload_n 0, 1) := by decide +kernel
theorem dX7_init_49 : decode cX7_init 49 = .ok (.bipush 40, 2) := by decide +kernel
theorem dX7_init_51 : decode cX7_init 51 = .ok (.newarray .int, 2) := by decide +kernel
theorem dX7_init_53 : decode cX7_init 53 = .ok (.putfield 26, 3) := by decide +kernel
theorem dX7_init_56 : decode cX7_init 56 = .ok (.aload_n 0, 1) := by decide +kernel
theorem dX7_init_57 : decode cX7_init 57 = .ok (.bipush 40, 2) := by decide +kernel
theorem dX7_init_59 : decode cX7_init 59 = .ok (.newarray .int, 2) := by decide +kernel
theorem dX7_init_61 : decode cX7_init 61 = .ok (.putfield 29, 3) := by decide +kernel
theorem dX7_init_64 : decode cX7_init 64 = .ok (.aload_n 0, 1) := by decide +kernel
theorem dX7_init_65 : decode cX7_init 65 = .ok (.bipush 40, 2) := by decide +kernel
theorem dX7_init_67 : decode cX7_init 67 = .ok (.newarray .int, 2) := by decide +kernel
theorem dX7_init_69 : decode cX7_init 69 = .ok (.putfield 32, 3) := by decide +kernel
theorem dX7_init_72 : decode cX7_init 72 = .ok (.aload_n 0, 1) := by decide +kernel
theorem dX7_init_73 : decode cX7_init 73 = .ok (.bipush 40, 2) := by decide +kernel
theorem dX7_init_75 : decode cX7_init 75 = .ok (.newarray .int, 2) := by decide +kernel
theorem dX7_init_77 : decode cX7_init 77 = .ok (.putfield 35, 3) := by decide +kernel
theorem dX7_init_80 : decode cX7_init 80 = .ok (.aload_n 0, 1) := by decide +kernel
theorem dX7_init_81 : decode cX7_init 81 = .ok (.bipush 40, 2) := by decide +kernel
theorem dX7_init_83 : decode cX7_init 83 = .ok (.newarray .int, 2) := by decide +kernel
theorem dX7_init_85 : decode cX7_init 85 = .ok (.putfield 38, 3) := by decide +kernel
theorem dX7_init_88 : decode cX7_init 88 = .ok (.aload_n 0, 1) := by decide +kernel
theorem dX7_init_89 : decode cX7_init 89 = .ok (.iconst 4, 1) := by decide +kernel
theorem dX7_init_90 : decode cX7_init 90 = .ok (.newarray .int, 2) := by decide +kernel
theorem dX7_init_92 : decode cX7_init 92 = .ok (.putfield 41, 3) := by decide +kernel
theorem dX7_init_95 : decode cX7_init 95 = .ok (.aload_n 0, 1) := by decide +kernel
theorem dX7_init_96 : decode cX7_init 96 = .ok (.getfield 7, 3) := by decide +kernel
theorem dX7_init_99 : decode cX7_init 99 = .ok (.iconst 0, 1) := by decide +kernel
theorem dX7_init_100 : decode cX7_init 100 = .ok (.bipush 16, 2) := by decide +kernel
theorem dX7_init_102 : decode cX7_init 102 = .ok (.iastore, 1) := by decide +kernel
theorem dX7_init_103 : decode cX7_init 103 = .ok (.aload_n 0, 1) := by decide +kernel
theorem dX7_init_104 : decode cX7_init 104 = .ok (.getfield 7, 3) := by decide +kernel
theorem dX7_init_107 : decode cX7_init 107 = .ok (.iconst 1, 1) := by decide +kernel
theorem dX7_init_108 : decode cX7_init 108 = .ok (.iconst 1, 1) := by decide +kernel
theorem dX7_init_109 : decode cX7_init 109 = .ok (.iastore, 1) := by decide +kernel
theorem dX7_init_110 : decode cX7_init 110 = .ok (.aload_n 0, 1) := by decide +kernel
theorem dX7_init_111 : decode cX7_init 111 = .ok (.getfield 7, 3) := by decide +kernel
theorem dX7_init_114 : decode cX7_init 114 = .ok (.iconst 2, 1) := by decide +kernel
theorem dX7_init_115 : decode cX7_init 115 = .ok (.iconst 2, 1) := by decide +kernel
theorem dX7_init_116 : decode cX7_init 116 = .ok (.iastore, 1) := by decide +kernel
theorem dX7_init_117 : decode cX7_init 117 = .ok (.aload_n 0, 1) := by decide +kernel
theorem dX7_init_118 : decode cX7_init 118 = .ok (.getfield 7, 3) := by decide +kernel
theorem dX7_init_121 : decode cX7_init 121 = .ok (.iconst 4, 1) := by decide +kernel
theorem dX7_init_122 : decode cX7_init 122 = .ok (.bipush 50, 2) := by decide +kernel
theorem dX7_init_124 : decode cX7_init 124 = .ok (.iastore, 1) := by decide +kernel
theorem dX7_init_125 : decode cX7_init 125 = .ok (.return_, 1) := by decide +kernel
theorem dX7_in_0 : decode cX7_in 0 = .ok (.iload_n 0, 1) := by decide +kernel
theorem dX7_in_1 : decode cX7_in 1 = .ok (.iload_n 1, 1) := by decide +kernel
theorem dX7_in_2 : decode cX7_in 2 = .ok (.if_icmp .lt 12, 3) := by decide +kernel
theorem dX7_in_5 : decode cX7_in 5 = .ok (.iload_n 0, 1) := by decide +kernel
theorem dX7_in_6 : decode cX7_in 6 = .ok (.iload_n 2, 1) := by decide +kernel
theorem dX7_in_7 : decode cX7_in 7 = .ok (.if_icmp .gt 7, 3) := by decide +kernel
theorem dX7_in_10 : decode cX7_in 10 = .ok (.iconst 1, 1) := by decide +kernel
theorem dX7_in_11 : decode cX7_in 11 = .ok (.goto 4, 3) := by decide +kernel
theorem dX7_in_14 : decode cX7_in 14 = .ok (.iconst 0, 1) := by decide +kernel
theorem dX7_in_15 : decode cX7_in 15 = .ok (.ireturn, 1) := by decide +kernel
theorem dX7_size_0 : decode cX7_size 0 = .ok (.iload_n 0, 1) := by decide +kernel
theorem dX7_size_1 : decode cX7_size 1 = .ok (.ifCond .ge 8, 3) := by decide +kernel
theorem dX7_size_4 : decode cX7_size 4 = .ok (.iload_n 0, 1) := by decide +kernel
theorem dX7_size_5 : decode cX7_size 5 = .ok (.ineg, 1) := by decide +kernel
theorem dX7_size_6 : decode cX7_size 6 = .ok (.goto 4, 3) := by decide +kernel
theorem dX7_size_9 : decode cX7_size 9 = .ok (.iload_n 0, 1) := by decide +kernel
theorem dX7_size_10 : decode cX7_size 10 = .ok (.ireturn, 1) := by decide +kernel
theorem dX7_isPitch_0 : decode cX7_isPitch 0 = .ok (.iload_n 0, 1) := by decide +kernel
theorem dX7_isPitch_1 : decode cX7_isPitch 1 = .ok (.iconst 0, 1) := by decide +kernel
theorem dX7_isPitch_2 : decode cX7_isPitch 2 = .ok (.bipush 60, 2) := by decide +kernel
theorem dX7_isPitch_4 : decode cX7_isPitch 4 = .ok (.invokestatic 44, 3) := by decide +kernel
theorem dX7_isPitch_7 : decode cX7_isPitch 7 = .ok (.ireturn, 1) := by decide +kernel
theorem dX7_isTick_0 : decode cX7_isTick 0 = .ok (.iload_n 0, 1) := by decide +kernel
theorem dX7_isTick_1 : decode cX7_isTick 1 = .ok (.iconst 0, 1) := by decide +kernel
theorem dX7_isTick_2 : decode cX7_isTick 2 = .ok (.sipush 599, 3) := by decide +kernel
theorem dX7_isTick_5 : decode cX7_isTick 5 = .ok (.invokestatic 44, 3) := by decide +kernel
theorem dX7_isTick_8 : decode cX7_isTick 8 = .ok (.ireturn, 1) := by decide +kernel
theorem dX7_isSyllable_0 : decode cX7_isSyllable 0 = .ok (.iload_n 1, 1) := by decide +kernel
theorem dX7_isSyllable_1 : decode cX7_isSyllable 1 = .ok (.iconst 0, 1) := by decide +kernel
theorem dX7_isSyllable_2 : decode cX7_isSyllable 2 = .ok (.aload_n 0, 1) := by decide +kernel
theorem dX7_isSyllable_3 : decode cX7_isSyllable 3 = .ok (.getfield 7, 3) := by decide +kernel
theorem dX7_isSyllable_6 : decode cX7_isSyllable 6 = .ok (.iconst 5, 1) := by decide +kernel
theorem dX7_isSyllable_7 : decode cX7_isSyllable 7 = .ok (.iaload, 1) := by decide +kernel
theorem dX7_isSyllable_8 : decode cX7_isSyllable 8 = .ok (.iconst 1, 1) := by decide +kernel
theorem dX7_isSyllable_9 : decode cX7_isSyllable 9 = .ok (.isub, 1) := by decide +kernel
theorem dX7_isSyllable_10 : decode cX7_isSyllable 10 = .ok (.invokestatic 44, 3) := by decide +kernel
theorem dX7_isSyllable_13 : decode cX7_isSyllable 13 = .ok (.ireturn, 1) := by decide +kernel
theorem dX7_of_0 : decode cX7_of 0 = .ok (.aload_n 0, 1) := by decide +kernel
theorem dX7_of_1 : decode cX7_of 1 = .ok (.getfield 7, 3) := by decide +kernel
theorem dX7_of_4 : decode cX7_of 4 = .ok (.bipush 6, 2) := by decide +kernel
theorem dX7_of_6 : decode cX7_of 6 = .ok (.iconst 5, 1) := by decide +kernel
theorem dX7_of_7 : decode cX7_of 7 = .ok (.iload_n 1, 1) := by decide +kernel
theorem dX7_of_8 : decode cX7_of 8 = .ok (.imul, 1) := by decide +kernel
theorem dX7_of_9 : decode cX7_of 9 = .ok (.iadd, 1) := by decide +kernel
theorem dX7_of_10 : decode cX7_of 10 = .ok (.iload_n 2, 1) := by decide +kernel
theorem dX7_of_11 : decode cX7_of 11 = .ok (.iadd, 1) := by decide +kernel
theorem dX7_of_12 : decode cX7_of 12 = .ok (.iaload, 1) := by decide +kernel
theorem dX7_of_13 : decode cX7_of 13 = .ok (.ireturn, 1) := by decide +kernel
theorem dX7_lay_0 : decode cX7_lay 0 = .ok (.aload_n 0, 1) := by decide +kernel
theorem dX7_lay_1 : decode cX7_lay 1 = .ok (.getfield 7, 3) := by decide +kernel
theorem dX7_lay_4 : decode cX7_lay 4 = .ok (.bipush 6, 2) := by decide +kernel
theorem dX7_lay_6 : decode cX7_lay 6 = .ok (.iconst 5, 1) := by decide +kernel
theorem dX7_lay_7 : decode cX7_lay 7 = .ok (.iload_n 1, 1) := by decide +kernel
theorem dX7_lay_8 : decode cX7_lay 8 = .ok (.imul, 1) := by decide +kernel
theorem dX7_lay_9 : decode cX7_lay 9 = .ok (.iadd, 1) := by decide +kernel
theorem dX7_lay_10 : decode cX7_lay 10 = .ok (.iload_n 2, 1) := by decide +kernel
theorem dX7_lay_11 : decode cX7_lay 11 = .ok (.iadd, 1) := by decide +kernel
theorem dX7_lay_12 : decode cX7_lay 12 = .ok (.iload_n 3, 1) := by decide +kernel
theorem dX7_lay_13 : decode cX7_lay 13 = .ok (.iastore, 1) := by decide +kernel
theorem dX7_lay_14 : decode cX7_lay 14 = .ok (.return_, 1) := by decide +kernel
theorem dX7_copy_0 : decode cX7_copy 0 = .ok (.iconst 0, 1) := by decide +kernel
theorem dX7_copy_1 : decode cX7_copy 1 = .ok (.istore 4, 2) := by decide +kernel
theorem dX7_copy_3 : decode cX7_copy 3 = .ok (.iload 4, 2) := by decide +kernel
theorem dX7_copy_5 : decode cX7_copy 5 = .ok (.sipush 806, 3) := by decide +kernel
theorem dX7_copy_8 : decode cX7_copy 8 = .ok (.if_icmp .ge 21, 3) := by decide +kernel
theorem dX7_copy_11 : decode cX7_copy 11 = .ok (.aload_n 2, 1) := by decide +kernel
theorem dX7_copy_12 : decode cX7_copy 12 = .ok (.iload_n 3, 1) := by decide +kernel
theorem dX7_copy_13 : decode cX7_copy 13 = .ok (.iload 4, 2) := by decide +kernel
theorem dX7_copy_15 : decode cX7_copy 15 = .ok (.iadd, 1) := by decide +kernel
theorem dX7_copy_16 : decode cX7_copy 16 = .ok (.aload_n 0, 1) := by decide +kernel
theorem dX7_copy_17 : decode cX7_copy 17 = .ok (.iload_n 1, 1) := by decide +kernel
theorem dX7_copy_18 : decode cX7_copy 18 = .ok (.iload 4, 2) := by decide +kernel
theorem dX7_copy_20 : decode cX7_copy 20 = .ok (.iadd, 1) := by decide +kernel
theorem dX7_copy_21 : decode cX7_copy 21 = .ok (.iaload, 1) := by decide +kernel
theorem dX7_copy_22 : decode cX7_copy 22 = .ok (.iastore, 1) := by decide +kernel
theorem dX7_copy_23 : decode cX7_copy 23 = .ok (.iinc 4 1, 3) := by decide +kernel
theorem dX7_copy_26 : decode cX7_copy 26 = .ok (.goto (-23), 3) := by decide +kernel
theorem dX7_copy_29 : decode cX7_copy 29 = .ok (.return_, 1) := by decide +kernel
theorem dX7_record_0 : decode cX7_record 0 = .ok (.aload_n 0, 1) := by decide +kernel
theorem dX7_record_1 : decode cX7_record 1 = .ok (.getfield 48, 3) := by decide +kernel
theorem dX7_record_4 : decode cX7_record 4 = .ok (.iconst 4, 1) := by decide +kernel
theorem dX7_record_5 : decode cX7_record 5 = .ok (.if_icmp .ne 44, 3) := by decide +kernel
theorem dX7_record_8 : decode cX7_record 8 = .ok (.iconst 0, 1) := by decide +kernel
theorem dX7_record_9 : decode cX7_record 9 = .ok (.istore_n 1, 1) := by decide +kernel
theorem dX7_record_10 : decode cX7_record 10 = .ok (.iload_n 1, 1) := by decide +kernel
theorem dX7_record_11 : decode cX7_record 11 = .ok (.sipush 2418, 3) := by decide +kernel
theorem dX7_record_14 : decode cX7_record 14 = .ok (.if_icmp .ge 25, 3) := by decide +kernel
theorem dX7_record_17 : decode cX7_record 17 = .ok (.aload_n 0, 1) := by decide +kernel
theorem dX7_record_18 : decode cX7_record 18 = .ok (.getfield 13, 3) := by decide +kernel
theorem dX7_record_21 : decode cX7_record 21 = .ok (.iload_n 1, 1) := by decide +kernel
theorem dX7_record_22 : decode cX7_record 22 = .ok (.aload_n 0, 1) := by decide +kernel
theorem dX7_record_23 : decode cX7_record 23 = .ok (.getfield 13, 3) := by decide +kernel
theorem dX7_record_26 : decode cX7_record 26 = .ok (.sipush 806, 3) := by decide +kernel
theorem dX7_record_29 : decode cX7_record 29 = .ok (.iload_n 1, 1) := by decide +kernel
theorem dX7_record_30 : decode cX7_record 30 = .ok (.iadd, 1) := by decide +kernel
theorem dX7_record_31 : decode cX7_record 31 = .ok (.iaload, 1) := by decide +kernel
theorem dX7_record_32 : decode cX7_record 32 = .ok (.iastore, 1) := by decide +kernel
theorem dX7_record_33 : decode cX7_record 33 = .ok (.iinc 1 1, 3) := by decide +kernel
theorem dX7_record_36 : decode cX7_record 36 = .ok (.goto (-26), 3) := by decide +kernel
theorem dX7_record_39 : decode cX7_record 39 = .ok (.aload_n 0, 1) := by decide +kernel
theorem dX7_record_40 : decode cX7_record 40 = .ok (.dup, 1) := by decide +kernel
theorem dX7_record_41 : decode cX7_record 41 = .ok (.getfield 48, 3) := by decide +kernel
theorem dX7_record_44 : decode cX7_record 44 = .ok (.iconst 1, 1) := by decide +kernel
theorem dX7_record_45 : decode cX7_record 45 = .ok (.isub, 1) := by decide +kernel
theorem dX7_record_46 : decode cX7_record 46 = .ok (.putfield 48, 3) := by decide +kernel
theorem dX7_record_49 : decode cX7_record 49 = .ok (.aload_n 0, 1) := by decide +kernel
theorem dX7_record_50 : decode cX7_record 50 = .ok (.getfield 7, 3) := by decide +kernel
theorem dX7_record_53 : decode cX7_record 53 = .ok (.iconst 0, 1) := by decide +kernel
theorem dX7_record_54 : decode cX7_record 54 = .ok (.aload_n 0, 1) := by decide +kernel
theorem dX7_record_55 : decode cX7_record 55 = .ok (.getfield 13, 3) := by decide +kernel
theorem dX7_record_58 : decode cX7_record 58 = .ok (.sipush 806, 3) := by decide +kernel
theorem dX7_record_61 : decode cX7_record 61 = .ok (.aload_n 0, 1) := by decide +kernel
theorem dX7_record_62 : decode cX7_record 62 = .ok (.getfield 48, 3) := by decide +kernel
theorem dX7_record_65 : decode cX7_record 65 = .ok (.imul, 1) := by decide +kernel
theorem dX7_record_66 : decode cX7_record 66 = .ok (.invokestatic 52, 3) := by decide +kernel
theorem dX7_record_69 : decode cX7_record 69 = .ok (.aload_n 0, 1) := by decide +kernel
theorem dX7_record_70 : decode cX7_record 70 = .ok (.dup, 1) := by decide +kernel
theorem dX7_record_71 : decode cX7_record 71 = .ok (.getfield 48, 3) := by decide +kernel
theorem dX7_record_74 : decode cX7_record 74 = .ok (.iconst 1, 1) := by decide +kernel
theorem dX7_record_75 : decode cX7_record 75 = .ok (.iadd, 1) := by decide +kernel
theorem dX7_record_76 : decode cX7_record 76 = .ok (.putfield 48, 3) := by decide +kernel
theorem dX7_record_79 : decode cX7_record 79 = .ok (.return_, 1) := by decide +kernel
theorem dX7_behind_0 : decode cX7_behind 0 = .ok (.iload_n 1, 1) := by decide +kernel
theorem dX7_behind_1 : decode cX7_behind 1 = .ok (.ifCond .ge 7, 3) := by decide +kernel
theorem dX7_behind_4 : decode cX7_behind 4 = .ok (.iconst 0, 1) := by decide +kernel
theorem dX7_behind_5 : decode cX7_behind 5 = .ok (.goto 16, 3) := by decide +kernel
theorem dX7_behind_8 : decode cX7_behind 8 = .ok (.aload_n 0, 1) := by decide +kernel
theorem dX7_behind_9 : decode cX7_behind 9 = .ok (.iload_n 1, 1) := by decide +kernel
theorem dX7_behind_10 : decode cX7_behind 10 = .ok (.iconst 0, 1) := by decide +kernel
theorem dX7_behind_11 : decode cX7_behind 11 = .ok (.invokevirtual 56, 3) := by decide +kernel
theorem dX7_behind_14 : decode cX7_behind 14 = .ok (.aload_n 0, 1) := by decide +kernel
theorem dX7_behind_15 : decode cX7_behind 15 = .ok (.iload_n 1, 1) := by decide +kernel
theorem dX7_behind_16 : decode cX7_behind 16 = .ok (.iconst 1, 1) := by decide +kernel
theorem dX7_behind_17 : decode cX7_behind 17 = .ok (.invokevirtual 56, 3) := by decide +kernel
theorem dX7_behind_20 : decode cX7_behind 20 = .ok (.iadd, 1) := by decide +kernel
theorem dX7_behind_21 : decode cX7_behind 21 = .ok (.ireturn, 1) := by decide +kernel
theorem dX7_endOfSong_0 : decode cX7_endOfSong 0 = .ok (.aload_n 0, 1) := by decide +kernel
theorem dX7_endOfSong_1 : decode cX7_endOfSong 1 = .ok (.aload_n 0, 1) := by decide +kernel
theorem dX7_endOfSong_2 : decode cX7_endOfSong 2 = .ok (.getfield 7, 3) := by decide +kernel
theorem dX7_endOfSong_5 : decode cX7_endOfSong 5 = .ok (.iconst 5, 1) := by decide +kernel
theorem dX7_endOfSong_6 : decode cX7_endOfSong 6 = .ok (.iaload, 1) := by decide +kernel
theorem dX7_endOfSong_7 : decode cX7_endOfSong 7 = .ok (.iconst 1, 1) := by decide +kernel
theorem dX7_endOfSong_8 : decode cX7_endOfSong 8 = .ok (.isub, 1) := by decide +kernel
theorem dX7_endOfSong_9 : decode cX7_endOfSong 9 = .ok (.invokevirtual 60, 3) := by decide +kernel
theorem dX7_endOfSong_12 : decode cX7_endOfSong 12 = .ok (.ireturn, 1) := by decide +kernel
theorem dX7_wantedIn_0 : decode cX7_wantedIn 0 = .ok (.aload_n 0, 1) := by decide +kernel
theorem dX7_wantedIn_1 : decode cX7_wantedIn 1 = .ok (.iload_n 1, 1) := by decide +kernel
theorem dX7_wantedIn_2 : decode cX7_wantedIn 2 = .ok (.iconst 1, 1) := by decide +kernel
theorem dX7_wantedIn_3 : decode cX7_wantedIn 3 = .ok (.invokevirtual 56, 3) := by decide +kernel
theorem dX7_wantedIn_6 : decode cX7_wantedIn 6 = .ok (.istore_n 3, 1) := by decide +kernel
theorem dX7_wantedIn_7 : decode cX7_wantedIn 7 = .ok (.iload_n 3, 1) := by decide +kernel
theorem dX7_wantedIn_8 : decode cX7_wantedIn 8 = .ok (.iconst 1, 1) := by decide +kernel
theorem dX7_wantedIn_9 : decode cX7_wantedIn 9 = .ok (.if_icmp .ne 12, 3) := by decide +kernel
theorem dX7_wantedIn_12 : decode cX7_wantedIn 12 = .ok (.aload_n 0, 1) := by decide +kernel
theorem dX7_wantedIn_13 : decode cX7_wantedIn 13 = .ok (.iload_n 1, 1) := by decide +kernel
theorem dX7_wantedIn_14 : decode cX7_wantedIn 14 = .ok (.iconst 2, 1) := by decide +kernel
theorem dX7_wantedIn_15 : decode cX7_wantedIn 15 = .ok (.invokevirtual 56, 3) := by decide +kernel
theorem dX7_wantedIn_18 : decode cX7_wantedIn 18 = .ok (.goto 29, 3) := by decide +kernel
theorem dX7_wantedIn_21 : decode cX7_wantedIn 21 = .ok (.aload_n 0, 1) := by decide +kernel
theorem dX7_wantedIn_22 : decode cX7_wantedIn 22 = .ok (.iload_n 1, 1) := by decide +kernel
theorem dX7_wantedIn_23 : decode cX7_wantedIn 23 = .ok (.iconst 2, 1) := by decide +kernel
theorem dX7_wantedIn_24 : decode cX7_wantedIn 24 = .ok (.invokevirtual 56, 3) := by decide +kernel
theorem dX7_wantedIn_27 : decode cX7_wantedIn 27 = .ok (.aload_n 0, 1) := by decide +kernel
theorem dX7_wantedIn_28 : decode cX7_wantedIn 28 = .ok (.iload_n 1, 1) := by decide +kernel
theorem dX7_wantedIn_29 : decode cX7_wantedIn 29 = .ok (.iconst 3, 1) := by decide +kernel
theorem dX7_wantedIn_30 : decode cX7_wantedIn 30 = .ok (.invokevirtual 56, 3) := by decide +kernel
theorem dX7_wantedIn_33 : decode cX7_wantedIn 33 = .ok (.aload_n 0, 1) := by decide +kernel
theorem dX7_wantedIn_34 : decode cX7_wantedIn 34 = .ok (.iload_n 1, 1) := by decide +kernel
theorem dX7_wantedIn_35 : decode cX7_wantedIn 35 = .ok (.iconst 2, 1) := by decide +kernel
theorem dX7_wantedIn_36 : decode cX7_wantedIn 36 = .ok (.invokevirtual 56, 3) := by decide +kernel
theorem dX7_wantedIn_39 : decode cX7_wantedIn 39 = .ok (.isub, 1) := by decide +kernel
theorem dX7_wantedIn_40 : decode cX7_wantedIn 40 = .ok (.iload_n 2, 1) := by decide +kernel
theorem dX7_wantedIn_41 : decode cX7_wantedIn 41 = .ok (.imul, 1) := by decide +kernel
theorem dX7_wantedIn_42 : decode cX7_wantedIn 42 = .ok (.iload_n 3, 1) := by decide +kernel
theorem dX7_wantedIn_43 : decode cX7_wantedIn 43 = .ok (.iconst 1, 1) := by decide +kernel
theorem dX7_wantedIn_44 : decode cX7_wantedIn 44 = .ok (.isub, 1) := by decide +kernel
theorem dX7_wantedIn_45 : decode cX7_wantedIn 45 = .ok (.idiv, 1) := by decide +kernel
theorem dX7_wantedIn_46 : decode cX7_wantedIn 46 = .ok (.iadd, 1) := by decide +kernel
theorem dX7_wantedIn_47 : decode cX7_wantedIn 47 = .ok (.ireturn, 1) := by decide +kernel
theorem dX7_syllableAt_0 : decode cX7_syllableAt 0 = .ok (.bipush (-5), 2) := by decide +kernel
theorem dX7_syllableAt_2 : decode cX7_syllableAt 2 = .ok (.istore_n 2, 1) := by decide +kernel
theorem dX7_syllableAt_3 : decode cX7_syllableAt 3 = .ok (.iconst 0, 1) := by decide +kernel
theorem dX7_syllableAt_4 : decode cX7_syllableAt 4 = .ok (.istore_n 3, 1) := by decide +kernel
theorem dX7_syllableAt_5 : decode cX7_syllableAt 5 = .ok (.iload_n 3, 1) := by decide +kernel
theorem dX7_syllableAt_6 : decode cX7_syllableAt 6 = .ok (.aload_n 0, 1) := by decide +kernel
theorem dX7_syllableAt_7 : decode cX7_syllableAt 7 = .ok (.getfield 7, 3) := by decide +kernel
theorem dX7_syllableAt_10 : decode cX7_syllableAt 10 = .ok (.iconst 5, 1) := by decide +kernel
theorem dX7_syllableAt_11 : decode cX7_syllableAt 11 = .ok (.iaload, 1) := by decide +kernel
theorem dX7_syllableAt_12 : decode cX7_syllableAt 12 = .ok (.if_icmp .ge 35, 3) := by decide +kernel
theorem dX7_syllableAt_15 : decode cX7_syllableAt 15 = .ok (.iload_n 1, 1) := by decide +kernel
theorem dX7_syllableAt_16 : decode cX7_syllableAt 16 = .ok (.aload_n 0, 1) := by decide +kernel
theorem dX7_syllableAt_17 : decode cX7_syllableAt 17 = .ok (.iload_n 3, 1) := by decide +kernel
theorem dX7_syllableAt_18 : decode cX7_syllableAt 18 = .ok (.iconst 0, 1) := by decide +kernel
theorem dX7_syllableAt_19 : decode cX7_syllableAt 19 = .ok (.invokevirtual 56, 3) := by decide +kernel
theorem dX7_syllableAt_22 : decode cX7_syllableAt 22 = .ok (.aload_n 0, 1) := by decide +kernel
theorem dX7_syllableAt_23 : decode cX7_syllableAt 23 = .ok (.iload_n 3, 1) := by decide +kernel
theorem dX7_syllableAt_24 : decode cX7_syllableAt 24 = .ok (.invokevirtual 60, 3) := by decide +kernel
theorem dX7_syllableAt_27 : decode cX7_syllableAt 27 = .ok (.iconst 1, 1) := by decide +kernel
theorem dX7_syllableAt_28 : decode cX7_syllableAt 28 = .ok (.isub, 1) := by decide +kernel
theorem dX7_syllableAt_29 : decode cX7_syllableAt 29 = .ok (.invokestatic 44, 3) := by decide +kernel
theorem dX7_syllableAt_32 : decode cX7_syllableAt 32 = .ok (.ifCond .eq 7, 3) := by decide +kernel
theorem dX7_syllableAt_35 : decode cX7_syllableAt 35 = .ok (.iload_n 3, 1) := by decide +kernel
theorem dX7_syllableAt_36 : decode cX7_syllableAt 36 = .ok (.goto 4, 3) := by decide +kernel
theorem dX7_syllableAt_39 : decode cX7_syllableAt 39 = .ok (.iload_n 2, 1) := by decide +kernel
theorem dX7_syllableAt_40 : decode cX7_syllableAt 40 = .ok (.istore_n 2, 1) := by decide +kernel
theorem dX7_syllableAt_41 : decode cX7_syllableAt 41 = .ok (.iinc 3 1, 3) := by decide +kernel
theorem dX7_syllableAt_44 : decode cX7_syllableAt 44 = .ok (.goto (-39), 3) := by decide +kernel
theorem dX7_syllableAt_47 : decode cX7_syllableAt 47 = .ok (.iload_n 2, 1) := by decide +kernel
theorem dX7_syllableAt_48 : decode cX7_syllableAt 48 = .ok (.ireturn, 1) := by decide +kernel
theorem dX7_phraseOf_0 : decode cX7_phraseOf 0 = .ok (.iconst (-1), 1) := by decide +kernel
theorem dX7_phraseOf_1 : decode cX7_phraseOf 1 = .ok (.istore_n 2, 1) := by decide +kernel
theorem dX7_phraseOf_2 : decode cX7_phraseOf 2 = .ok (.iconst 0, 1) := by decide +kernel
theorem dX7_phraseOf_3 : decode cX7_phraseOf 3 = .ok (.istore_n 3, 1) := by decide +kernel
theorem dX7_phraseOf_4 : decode cX7_phraseOf 4 = .ok (.iload_n 3, 1) := by decide +kernel
theorem dX7_phraseOf_5 : decode cX7_phraseOf 5 = .ok (.iload_n 1, 1) := by decide +kernel
theorem dX7_phraseOf_6 : decode cX7_phraseOf 6 = .ok (.if_icmp .gt 18, 3) := by decide +kernel
theorem dX7_phraseOf_9 : decode cX7_phraseOf 9 = .ok (.iload_n 2, 1) := by decide +kernel
theorem dX7_phraseOf_10 : decode cX7_phraseOf 10 = .ok (.aload_n 0, 1) := by decide +kernel
theorem dX7_phraseOf_11 : decode cX7_phraseOf 11 = .ok (.iload_n 3, 1) := by decide +kernel
theorem dX7_phraseOf_12 : decode cX7_phraseOf 12 = .ok (.iconst 4, 1) := by decide +kernel
theorem dX7_phraseOf_13 : decode cX7_phraseOf 13 = .ok (.invokevirtual 56, 3) := by decide +kernel
theorem dX7_phraseOf_16 : decode cX7_phraseOf 16 = .ok (.iadd, 1) := by decide +kernel
theorem dX7_phraseOf_17 : decode cX7_phraseOf 17 = .ok (.istore_n 2, 1) := by decide +kernel
theorem dX7_phraseOf_18 : decode cX7_phraseOf 18 = .ok (.iinc 3 1, 3) := by decide +kernel
theorem dX7_phraseOf_21 : decode cX7_phraseOf 21 = .ok (.goto (-17), 3) := by decide +kernel
theorem dX7_phraseOf_24 : decode cX7_phraseOf 24 = .ok (.iload_n 2, 1) := by decide +kernel
theorem dX7_phraseOf_25 : decode cX7_phraseOf 25 = .ok (.ireturn, 1) := by decide +kernel
theorem dX7_phrases_0 : decode cX7_phrases 0 = .ok (.aload_n 0, 1) := by decide +kernel
theorem dX7_phrases_1 : decode cX7_phrases 1 = .ok (.getfield 7, 3) := by decide +kernel
theorem dX7_phrases_4 : decode cX7_phrases 4 = .ok (.iconst 5, 1) := by decide +kernel
theorem dX7_phrases_5 : decode cX7_phrases 5 = .ok (.iaload, 1) := by decide +kernel
theorem dX7_phrases_6 : decode cX7_phrases 6 = .ok (.ifCond .ne 7, 3) := by decide +kernel
theorem dX7_phrases_9 : decode cX7_phrases 9 = .ok (.iconst 0, 1) := by decide +kernel
theorem dX7_phrases_10 : decode cX7_phrases 10 = .ok (.goto 17, 3) := by decide +kernel
theorem dX7_phrases_13 : decode cX7_phrases 13 = .ok (.aload_n 0, 1) := by decide +kernel
theorem dX7_phrases_14 : decode cX7_phrases 14 = .ok (.aload_n 0, 1) := by decide +kernel
theorem dX7_phrases_15 : decode cX7_phrases 15 = .ok (.getfield 7, 3) := by decide +kernel
theorem dX7_phrases_18 : decode cX7_phrases 18 = .ok (.iconst 5, 1) := by decide +kernel
theorem dX7_phrases_19 : decode cX7_phrases 19 = .ok (.iaload, 1) := by decide +kernel
theorem dX7_phrases_20 : decode cX7_phrases 20 = .ok (.iconst 1, 1) := by decide +kernel
theorem dX7_phrases_21 : decode cX7_phrases 21 = .ok (.isub, 1) := by decide +kernel
theorem dX7_phrases_22 : decode cX7_phrases 22 = .ok (.invokevirtual 64, 3) := by decide +kernel
theorem dX7_phrases_25 : decode cX7_phrases 25 = .ok (.iconst 1, 1) := by decide +kernel
theorem dX7_phrases_26 : decode cX7_phrases 26 = .ok (.iadd, 1) := by decide +kernel
theorem dX7_phrases_27 : decode cX7_phrases 27 = .ok (.ireturn, 1) := by decide +kernel
theorem dX7_hear_0 : decode cX7_hear 0 = .ok (.iconst 0, 1) := by decide +kernel
theorem dX7_hear_1 : decode cX7_hear 1 = .ok (.istore_n 3, 1) := by decide +kernel
theorem dX7_hear_2 : decode cX7_hear 2 = .ok (.iload_n 3, 1) := by decide +kernel
theorem dX7_hear_3 : decode cX7_hear 3 = .ok (.sipush 600, 3) := by decide +kernel
theorem dX7_hear_6 : decode cX7_hear 6 = .ok (.if_icmp .ge 67, 3) := by decide +kernel
theorem dX7_hear_9 : decode cX7_hear 9 = .ok (.iload_n 3, 1) := by decide +kernel
theorem dX7_hear_10 : decode cX7_hear 10 = .ok (.iload_n 1, 1) := by decide +kernel
theorem dX7_hear_11 : decode cX7_hear 11 = .ok (.isub, 1) := by decide +kernel
theorem dX7_hear_12 : decode cX7_hear 12 = .ok (.invokestatic 67, 3) := by decide +kernel
theorem dX7_hear_15 : decode cX7_hear 15 = .ok (.ifCond .eq 18, 3) := by decide +kernel
theorem dX7_hear_18 : decode cX7_hear 18 = .ok (.aload_n 0, 1) := by decide +kernel
theorem dX7_hear_19 : decode cX7_hear 19 = .ok (.getfield 7, 3) := by decide +kernel
theorem dX7_hear_22 : decode cX7_hear 22 = .ok (.sipush 206, 3) := by decide +kernel
theorem dX7_hear_25 : decode cX7_hear 25 = .ok (.iload_n 3, 1) := by decide +kernel
theorem dX7_hear_26 : decode cX7_hear 26 = .ok (.iadd, 1) := by decide +kernel
theorem dX7_hear_27 : decode cX7_hear 27 = .ok (.iload_n 1, 1) := by decide +kernel
theorem dX7_hear_28 : decode cX7_hear 28 = .ok (.isub, 1) := by decide +kernel
theorem dX7_hear_29 : decode cX7_hear 29 = .ok (.iaload, 1) := by decide +kernel
theorem dX7_hear_30 : decode cX7_hear 30 = .ok (.goto 4, 3) := by decide +kernel
theorem dX7_hear_33 : decode cX7_hear 33 = .ok (.iconst 0, 1) := by decide +kernel
theorem dX7_hear_34 : decode cX7_hear 34 = .ok (.istore 4, 2) := by decide +kernel
theorem dX7_hear_36 : decode cX7_hear 36 = .ok (.aload_n 0, 1) := by decide +kernel
theorem dX7_hear_37 : decode cX7_hear 37 = .ok (.getfield 23, 3) := by decide +kernel
theorem dX7_hear_40 : decode cX7_hear 40 = .ok (.iload_n 3, 1) := by decide +kernel
theorem dX7_hear_41 : decode cX7_hear 41 = .ok (.iload 4, 2) := by decide +kernel
theorem dX7_hear_43 : decode cX7_hear 43 = .ok (.ifCond .le 22, 3) := by decide +kernel
theorem dX7_hear_46 : decode cX7_hear 46 = .ok (.iload 4, 2) := by decide +kernel
theorem dX7_hear_48 : decode cX7_hear 48 = .ok (.iconst 1, 1) := by decide +kernel
theorem dX7_hear_49 : decode cX7_hear 49 = .ok (.isub, 1) := by decide +kernel
theorem dX7_hear_50 : decode cX7_hear 50 = .ok (.iload_n 2, 1) := by decide +kernel
theorem dX7_hear_51 : decode cX7_hear 51 = .ok (.iadd, 1) := by decide +kernel
theorem dX7_hear_52 : decode cX7_hear 52 = .ok (.invokestatic 71, 3) := by decide +kernel
theorem dX7_hear_55 : decode cX7_hear 55 = .ok (.ifCond .eq 10, 3) := by decide +kernel
theorem dX7_hear_58 : decode cX7_hear 58 = .ok (.iload 4, 2) := by decide +kernel
theorem dX7_hear_60 : decode cX7_hear 60 = .ok (.iload_n 2, 1) := by decide +kernel
theorem dX7_hear_61 : decode cX7_hear 61 = .ok (.iadd, 1) := by decide +kernel
theorem dX7_hear_62 : decode cX7_hear 62 = .ok (.goto 4, 3) := by decide +kernel
theorem dX7_hear_65 : decode cX7_hear 65 = .ok (.iconst 0, 1) := by decide +kernel
theorem dX7_hear_66 : decode cX7_hear 66 = .ok (.iastore, 1) := by decide +kernel
theorem dX7_hear_67 : decode cX7_hear 67 = .ok (.iinc 3 1, 3) := by decide +kernel
theorem dX7_hear_70 : decode cX7_hear 70 = .ok (.goto (-68), 3) := by decide +kernel
theorem dX7_hear_73 : decode cX7_hear 73 = .ok (.return_, 1) := by decide +kernel
theorem dX7_isOnset_0 : decode cX7_isOnset 0 = .ok (.aload_n 0, 1) := by decide +kernel
theorem dX7_isOnset_1 : decode cX7_isOnset 1 = .ok (.getfield 23, 3) := by decide +kernel
theorem dX7_isOnset_4 : decode cX7_isOnset 4 = .ok (.iload_n 1, 1) := by decide +kernel
theorem dX7_isOnset_5 : decode cX7_isOnset 5 = .ok (.iaload, 1) := by decide +kernel
theorem dX7_isOnset_6 : decode cX7_isOnset 6 = .ok (.ifCond .le 28, 3) := by decide +kernel
theorem dX7_isOnset_9 : decode cX7_isOnset 9 = .ok (.iload_n 1, 1) := by decide +kernel
theorem dX7_isOnset_10 : decode cX7_isOnset 10 = .ok (.ifCond .eq 20, 3) := by decide +kernel
theorem dX7_isOnset_13 : decode cX7_isOnset 13 = .ok (.aload_n 0, 1) := by decide +kernel
theorem dX7_isOnset_14 : decode cX7_isOnset 14 = .ok (.getfield 23, 3) := by decide +kernel
theorem dX7_isOnset_17 : decode cX7_isOnset 17 = .ok (.iload_n 1, 1) := by decide +kernel
theorem dX7_isOnset_18 : decode cX7_isOnset 18 = .ok (.iconst 1, 1) := by decide +kernel
theorem dX7_isOnset_19 : decode cX7_isOnset 19 = .ok (.isub, 1) := by decide +kernel
theorem dX7_isOnset_20 : decode cX7_isOnset 20 = .ok (.iaload, 1) := by decide +kernel
theorem dX7_isOnset_21 : decode cX7_isOnset 21 = .ok (.aload_n 0, 1) := by decide +kernel
theorem dX7_isOnset_22 : decode cX7_isOnset 22 = .ok (.getfield 23, 3) := by decide +kernel
theorem dX7_isOnset_25 : decode cX7_isOnset 25 = .ok (.iload_n 1, 1) := by decide +kernel
theorem dX7_isOnset_26 : decode cX7_isOnset 26 = .ok (.iaload, 1) := by decide +kernel
theorem dX7_isOnset_27 : decode cX7_isOnset 27 = .ok (.if_icmp .eq 7, 3) := by decide +kernel
theorem dX7_isOnset_30 : decode cX7_isOnset 30 = .ok (.iconst 1, 1) := by decide +kernel
theorem dX7_isOnset_31 : decode cX7_isOnset 31 = .ok (.goto 4, 3) := by decide +kernel
theorem dX7_isOnset_34 : decode cX7_isOnset 34 = .ok (.iconst 0, 1) := by decide +kernel
theorem dX7_isOnset_35 : decode cX7_isOnset 35 = .ok (.ireturn, 1) := by decide +kernel
theorem dX7_matches_0 : decode cX7_matches 0 = .ok (.aload_n 0, 1) := by decide +kernel
theorem dX7_matches_1 : decode cX7_matches 1 = .ok (.getfield 23, 3) := by decide +kernel
theorem dX7_matches_4 : decode cX7_matches 4 = .ok (.iload_n 2, 1) := by decide +kernel
theorem dX7_matches_5 : decode cX7_matches 5 = .ok (.iaload, 1) := by decide +kernel
theorem dX7_matches_6 : decode cX7_matches 6 = .ok (.ifCond .ne 5, 3) := by decide +kernel
theorem dX7_matches_9 : decode cX7_matches 9 = .ok (.iconst 0, 1) := by decide +kernel
theorem dX7_matches_10 : decode cX7_matches 10 = .ok (.ireturn, 1) := by decide +kernel
theorem dX7_matches_11 : decode cX7_matches 11 = .ok (.aload_n 0, 1) := by decide +kernel
theorem dX7_matches_12 : decode cX7_matches 12 = .ok (.getfield 23, 3) := by decide +kernel
theorem dX7_matches_15 : decode cX7_matches 15 = .ok (.iload_n 2, 1) := by decide +kernel
theorem dX7_matches_16 : decode cX7_matches 16 = .ok (.iaload, 1) := by decide +kernel
theorem dX7_matches_17 : decode cX7_matches 17 = .ok (.iconst 1, 1) := by decide +kernel
theorem dX7_matches_18 : decode cX7_matches 18 = .ok (.isub, 1) := by decide +kernel
theorem dX7_matches_19 : decode cX7_matches 19 = .ok (.aload_n 0, 1) := by decide +kernel
theorem dX7_matches_20 : decode cX7_matches 20 = .ok (.iload_n 1, 1) := by decide +kernel
theorem dX7_matches_21 : decode cX7_matches 21 = .ok (.iload_n 2, 1) := by decide +kernel
theorem dX7_matches_22 : decode cX7_matches 22 = .ok (.aload_n 0, 1) := by decide +kernel
theorem dX7_matches_23 : decode cX7_matches 23 = .ok (.iload_n 1, 1) := by decide +kernel
theorem dX7_matches_24 : decode cX7_matches 24 = .ok (.iconst 0, 1) := by decide +kernel
theorem dX7_matches_25 : decode cX7_matches 25 = .ok (.invokevirtual 56, 3) := by decide +kernel
theorem dX7_matches_28 : decode cX7_matches 28 = .ok (.isub, 1) := by decide +kernel
theorem dX7_matches_29 : decode cX7_matches 29 = .ok (.invokevirtual 74, 3) := by decide +kernel
theorem dX7_matches_32 : decode cX7_matches 32 = .ok (.isub, 1) := by decide +kernel
theorem dX7_matches_33 : decode cX7_matches 33 = .ok (.invokestatic 77, 3) := by decide +kernel
theorem dX7_matches_36 : decode cX7_matches 36 = .ok (.istore_n 3, 1) := by decide +kernel
theorem dX7_matches_37 : decode cX7_matches 37 = .ok (.aload_n 0, 1) := by decide +kernel
theorem dX7_matches_38 : decode cX7_matches 38 = .ok (.getfield 7, 3) := by decide +kernel
theorem dX7_matches_41 : decode cX7_matches 41 = .ok (.iconst 3, 1) := by decide +kernel
theorem dX7_matches_42 : decode cX7_matches 42 = .ok (.iaload, 1) := by decide +kernel
theorem dX7_matches_43 : decode cX7_matches 43 = .ok (.iconst 1, 1) := by decide +kernel
theorem dX7_matches_44 : decode cX7_matches 44 = .ok (.if_icmp .ne 25, 3) := by decide +kernel
theorem dX7_matches_47 : decode cX7_matches 47 = .ok (.iload_n 3, 1) := by decide +kernel
theorem dX7_matches_48 : decode cX7_matches 48 = .ok (.bipush 12, 2) := by decide +kernel
theorem dX7_matches_50 : decode cX7_matches 50 = .ok (.irem, 1) := by decide +kernel
theorem dX7_matches_51 : decode cX7_matches 51 = .ok (.istore_n 3, 1) := by decide +kernel
theorem dX7_matches_52 : decode cX7_matches 52 = .ok (.bipush 12, 2) := by decide +kernel
theorem dX7_matches_54 : decode cX7_matches 54 = .ok (.iload_n 3, 1) := by decide +kernel
theorem dX7_matches_55 : decode cX7_matches 55 = .ok (.isub, 1) := by decide +kernel
theorem dX7_matches_56 : decode cX7_matches 56 = .ok (.iload_n 3, 1) := by decide +kernel
theorem dX7_matches_57 : decode cX7_matches 57 = .ok (.if_icmp .ge 10, 3) := by decide +kernel
theorem dX7_matches_60 : decode cX7_matches 60 = .ok (.bipush 12, 2) := by decide +kernel
theorem dX7_matches_62 : decode cX7_matches 62 = .ok (.iload_n 3, 1) := by decide +kernel
theorem dX7_matches_63 : decode cX7_matches 63 = .ok (.isub, 1) := by decide +kernel
theorem dX7_matches_64 : decode cX7_matches 64 = .ok (.goto 4, 3) := by decide +kernel
theorem dX7_matches_67 : decode cX7_matches 67 = .ok (.iload_n 3, 1) := by decide +kernel
theorem dX7_matches_68 : decode cX7_matches 68 = .ok (.istore_n 3, 1) := by decide +kernel
theorem dX7_matches_69 : decode cX7_matches 69 = .ok (.iload_n 3, 1) := by decide +kernel
theorem dX7_matches_70 : decode cX7_matches 70 = .ok (.aload_n 0, 1) := by decide +kernel
theorem dX7_matches_71 : decode cX7_matches 71 = .ok (.getfield 7, 3) := by decide +kernel
theorem dX7_matches_74 : decode cX7_matches 74 = .ok (.iconst 1, 1) := by decide +kernel
theorem dX7_matches_75 : decode cX7_matches 75 = .ok (.iaload, 1) := by decide +kernel
theorem dX7_matches_76 : decode cX7_matches 76 = .ok (.if_icmp .gt 7, 3) := by decide +kernel
theorem dX7_matches_79 : decode cX7_matches 79 = .ok (.iconst 1, 1) := by decide +kernel
theorem dX7_matches_80 : decode cX7_matches 80 = .ok (.goto 4, 3) := by decide +kernel
theorem dX7_matches_83 : decode cX7_matches 83 = .ok (.iconst 0, 1) := by decide +kernel
theorem dX7_matches_84 : decode cX7_matches 84 = .ok (.ireturn, 1) := by decide +kernel
theorem dX7_nearestOnset_0 : decode cX7_nearestOnset 0 = .ok (.aload_n 0, 1) := by decide +kernel
theorem dX7_nearestOnset_1 : decode cX7_nearestOnset 1 = .ok (.iload_n 1, 1) := by decide +kernel
theorem dX7_nearestOnset_2 : decode cX7_nearestOnset 2 = .ok (.iconst 0, 1) := by decide +kernel
theorem dX7_nearestOnset_3 : decode cX7_nearestOnset 3 = .ok (.invokevirtual 56, 3) := by decide +kernel
theorem dX7_nearestOnset_6 : decode cX7_nearestOnset 6 = .ok (.istore_n 2, 1) := by decide +kernel
theorem dX7_nearestOnset_7 : decode cX7_nearestOnset 7 = .ok (.iconst 0, 1) := by decide +kernel
theorem dX7_nearestOnset_8 : decode cX7_nearestOnset 8 = .ok (.istore_n 3, 1) := by decide +kernel
theorem dX7_nearestOnset_9 : decode cX7_nearestOnset 9 = .ok (.iload_n 3, 1) := by decide +kernel
theorem dX7_nearestOnset_10 : decode cX7_nearestOnset 10 = .ok (.aload_n 0, 1) := by decide +kernel
theorem dX7_nearestOnset_11 : decode cX7_nearestOnset 11 = .ok (.getfield 7, 3) := by decide +kernel
theorem dX7_nearestOnset_14 : decode cX7_nearestOnset 14 = .ok (.iconst 2, 1) := by decide +kernel
theorem dX7_nearestOnset_15 : decode cX7_nearestOnset 15 = .ok (.iaload, 1) := by decide +kernel
theorem dX7_nearestOnset_16 : decode cX7_nearestOnset 16 = .ok (.if_icmp .gt 55, 3) := by decide +kernel
theorem dX7_nearestOnset_19 : decode cX7_nearestOnset 19 = .ok (.iload_n 2, 1) := by decide +kernel
theorem dX7_nearestOnset_20 : decode cX7_nearestOnset 20 = .ok (.iload_n 3, 1) := by decide +kernel
theorem dX7_nearestOnset_21 : decode cX7_nearestOnset 21 = .ok (.isub, 1) := by decide +kernel
theorem dX7_nearestOnset_22 : decode cX7_nearestOnset 22 = .ok (.invokestatic 67, 3) := by decide +kernel
theorem dX7_nearestOnset_25 : decode cX7_nearestOnset 25 = .ok (.ifCond .eq 17, 3) := by decide +kernel
theorem dX7_nearestOnset_28 : decode cX7_nearestOnset 28 = .ok (.aload_n 0, 1) := by decide +kernel
theorem dX7_nearestOnset_29 : decode cX7_nearestOnset 29 = .ok (.iload_n 2, 1) := by decide +kernel
theorem dX7_nearestOnset_30 : decode cX7_nearestOnset 30 = .ok (.iload_n 3, 1) := by decide +kernel
theorem dX7_nearestOnset_31 : decode cX7_nearestOnset 31 = .ok (.isub, 1) := by decide +kernel
theorem dX7_nearestOnset_32 : decode cX7_nearestOnset 32 = .ok (.invokevirtual 80, 3) := by decide +kernel
theorem dX7_nearestOnset_35 : decode cX7_nearestOnset 35 = .ok (.ifCond .eq 7, 3) := by decide +kernel
theorem dX7_nearestOnset_38 : decode cX7_nearestOnset 38 = .ok (.iload_n 2, 1) := by decide +kernel
theorem dX7_nearestOnset_39 : decode cX7_nearestOnset 39 = .ok (.iload_n 3, 1) := by decide +kernel
theorem dX7_nearestOnset_40 : decode cX7_nearestOnset 40 = .ok (.isub, 1) := by decide +kernel
theorem dX7_nearestOnset_41 : decode cX7_nearestOnset 41 = .ok (.ireturn, 1) := by decide +kernel
theorem dX7_nearestOnset_42 : decode cX7_nearestOnset 42 = .ok (.iload_n 2, 1) := by decide +kernel
theorem dX7_nearestOnset_43 : decode cX7_nearestOnset 43 = .ok (.iload_n 3, 1) := by decide +kernel
theorem dX7_nearestOnset_44 : decode cX7_nearestOnset 44 = .ok (.iadd, 1) := by decide +kernel
theorem dX7_nearestOnset_45 : decode cX7_nearestOnset 45 = .ok (.invokestatic 67, 3) := by decide +kernel
theorem dX7_nearestOnset_48 : decode cX7_nearestOnset 48 = .ok (.ifCond .eq 17, 3) := by decide +kernel
theorem dX7_nearestOnset_51 : decode cX7_nearestOnset 51 = .ok (.aload_n 0, 1) := by decide +kernel
theorem dX7_nearestOnset_52 : decode cX7_nearestOnset 52 = .ok (.iload_n 2, 1) := by decide +kernel
theorem dX7_nearestOnset_53 : decode cX7_nearestOnset 53 = .ok (.iload_n 3, 1) := by decide +kernel
theorem dX7_nearestOnset_54 : decode cX7_nearestOnset 54 = .ok (.iadd, 1) := by decide +kernel
theorem dX7_nearestOnset_55 : decode cX7_nearestOnset 55 = .ok (.invokevirtual 80, 3) := by decide +kernel
theorem dX7_nearestOnset_58 : decode cX7_nearestOnset 58 = .ok (.ifCond .eq 7, 3) := by decide +kernel
theorem dX7_nearestOnset_61 : decode cX7_nearestOnset 61 = .ok (.iload_n 2, 1) := by decide +kernel
theorem dX7_nearestOnset_62 : decode cX7_nearestOnset 62 = .ok (.iload_n 3, 1) := by decide +kernel
theorem dX7_nearestOnset_63 : decode cX7_nearestOnset 63 = .ok (.iadd, 1) := by decide +kernel
theorem dX7_nearestOnset_64 : decode cX7_nearestOnset 64 = .ok (.ireturn, 1) := by decide +kernel
theorem dX7_nearestOnset_65 : decode cX7_nearestOnset 65 = .ok (.iinc 3 1, 3) := by decide +kernel
theorem dX7_nearestOnset_68 : decode cX7_nearestOnset 68 = .ok (.goto (-59), 3) := by decide +kernel
theorem dX7_nearestOnset_71 : decode cX7_nearestOnset 71 = .ok (.bipush (-5), 2) := by decide +kernel
theorem dX7_nearestOnset_73 : decode cX7_nearestOnset 73 = .ok (.ireturn, 1) := by decide +kernel
theorem dX7_share_0 : decode cX7_share 0 = .ok (.aload_n 0, 1) := by decide +kernel
theorem dX7_share_1 : decode cX7_share 1 = .ok (.getfield 26, 3) := by decide +kernel
theorem dX7_share_4 : decode cX7_share 4 = .ok (.iload_n 1, 1) := by decide +kernel
theorem dX7_share_5 : decode cX7_share 5 = .ok (.iaload, 1) := by decide +kernel
theorem dX7_share_6 : decode cX7_share 6 = .ok (.bipush 100, 2) := by decide +kernel
theorem dX7_share_8 : decode cX7_share 8 = .ok (.imul, 1) := by decide +kernel
theorem dX7_share_9 : decode cX7_share 9 = .ok (.aload_n 0, 1) := by decide +kernel
theorem dX7_share_10 : decode cX7_share 10 = .ok (.iload_n 1, 1) := by decide +kernel
theorem dX7_share_11 : decode cX7_share 11 = .ok (.iconst 1, 1) := by decide +kernel
theorem dX7_share_12 : decode cX7_share 12 = .ok (.invokevirtual 56, 3) := by decide +kernel
theorem dX7_share_15 : decode cX7_share 15 = .ok (.idiv, 1) := by decide +kernel
theorem dX7_share_16 : decode cX7_share 16 = .ok (.ireturn, 1) := by decide +kernel
theorem dX7_reasonOf_0 : decode cX7_reasonOf 0 = .ok (.iconst 0, 1) := by decide +kernel
theorem dX7_reasonOf_1 : decode cX7_reasonOf 1 = .ok (.istore_n 2, 1) := by decide +kernel
theorem dX7_reasonOf_2 : decode cX7_reasonOf 2 = .ok (.aload_n 0, 1) := by decide +kernel
theorem dX7_reasonOf_3 : decode cX7_reasonOf 3 = .ok (.iload_n 1, 1) := by decide +kernel
theorem dX7_reasonOf_4 : decode cX7_reasonOf 4 = .ok (.iconst 0, 1) := by decide +kernel
theorem dX7_reasonOf_5 : decode cX7_reasonOf 5 = .ok (.invokevirtual 56, 3) := by decide +kernel
theorem dX7_reasonOf_8 : decode cX7_reasonOf 8 = .ok (.istore_n 3, 1) := by decide +kernel
theorem dX7_reasonOf_9 : decode cX7_reasonOf 9 = .ok (.iload_n 3, 1) := by decide +kernel
theorem dX7_reasonOf_10 : decode cX7_reasonOf 10 = .ok (.aload_n 0, 1) := by decide +kernel
theorem dX7_reasonOf_11 : decode cX7_reasonOf 11 = .ok (.iload_n 1, 1) := by decide +kernel
theorem dX7_reasonOf_12 : decode cX7_reasonOf 12 = .ok (.invokevirtual 60, 3) := by decide +kernel
theorem dX7_reasonOf_15 : decode cX7_reasonOf 15 = .ok (.if_icmp .ge 26, 3) := by decide +kernel
theorem dX7_reasonOf_18 : decode cX7_reasonOf 18 = .ok (.iload_n 2, 1) := by decide +kernel
theorem dX7_reasonOf_19 : decode cX7_reasonOf 19 = .ok (.aload_n 0, 1) := by decide +kernel
theorem dX7_reasonOf_20 : decode cX7_reasonOf 20 = .ok (.getfield 23, 3) := by decide +kernel
theorem dX7_reasonOf_23 : decode cX7_reasonOf 23 = .ok (.iload_n 3, 1) := by decide +kernel
theorem dX7_reasonOf_24 : decode cX7_reasonOf 24 = .ok (.iaload, 1) := by decide +kernel
theorem dX7_reasonOf_25 : decode cX7_reasonOf 25 = .ok (.ifCond .le 7, 3) := by decide +kernel
theorem dX7_reasonOf_28 : decode cX7_reasonOf 28 = .ok (.iconst 1, 1) := by decide +kernel
theorem dX7_reasonOf_29 : decode cX7_reasonOf 29 = .ok (.goto 4, 3) := by decide +kernel
theorem dX7_reasonOf_32 : decode cX7_reasonOf 32 = .ok (.iconst 0, 1) := by decide +kernel
theorem dX7_reasonOf_33 : decode cX7_reasonOf 33 = .ok (.iadd, 1) := by decide +kernel
theorem dX7_reasonOf_34 : decode cX7_reasonOf 34 = .ok (.istore_n 2, 1) := by decide +kernel
theorem dX7_reasonOf_35 : decode cX7_reasonOf 35 = .ok (.iinc 3 1, 3) := by decide +kernel
theorem dX7_reasonOf_38 : decode cX7_reasonOf 38 = .ok (.goto (-29), 3) := by decide +kernel
theorem dX7_reasonOf_41 : decode cX7_reasonOf 41 = .ok (.iload_n 2, 1) := by decide +kernel
theorem dX7_reasonOf_42 : decode cX7_reasonOf 42 = .ok (.ifCond .ne 5, 3) := by decide +kernel
theorem dX7_reasonOf_45 : decode cX7_reasonOf 45 = .ok (.iconst 1, 1) := by decide +kernel
theorem dX7_reasonOf_46 : decode cX7_reasonOf 46 = .ok (.ireturn, 1) := by decide +kernel
theorem dX7_reasonOf_47 : decode cX7_reasonOf 47 = .ok (.aload_n 0, 1) := by decide +kernel
theorem dX7_reasonOf_48 : decode cX7_reasonOf 48 = .ok (.getfield 26, 3) := by decide +kernel
theorem dX7_reasonOf_51 : decode cX7_reasonOf 51 = .ok (.iload_n 1, 1) := by decide +kernel
theorem dX7_reasonOf_52 : decode cX7_reasonOf 52 = .ok (.iaload, 1) := by decide +kernel
theorem dX7_reasonOf_53 : decode cX7_reasonOf 53 = .ok (.ifCond .ne 7, 3) := by decide +kernel
theorem dX7_reasonOf_56 : decode cX7_reasonOf 56 = .ok (.iconst 2, 1) := by decide +kernel
theorem dX7_reasonOf_57 : decode cX7_reasonOf 57 = .ok (.goto 37, 3) := by decide +kernel
theorem dX7_reasonOf_60 : decode cX7_reasonOf 60 = .ok (.aload_n 0, 1) := by decide +kernel
theorem dX7_reasonOf_61 : decode cX7_reasonOf 61 = .ok (.getfield 29, 3) := by decide +kernel
theorem dX7_reasonOf_64 : decode cX7_reasonOf 64 = .ok (.iload_n 1, 1) := by decide +kernel
theorem dX7_reasonOf_65 : decode cX7_reasonOf 65 = .ok (.iaload, 1) := by decide +kernel
theorem dX7_reasonOf_66 : decode cX7_reasonOf 66 = .ok (.bipush (-5), 2) := by decide +kernel
theorem dX7_reasonOf_68 : decode cX7_reasonOf 68 = .ok (.if_icmp .ne 7, 3) := by decide +kernel
theorem dX7_reasonOf_71 : decode cX7_reasonOf 71 = .ok (.iconst 3, 1) := by decide +kernel
theorem dX7_reasonOf_72 : decode cX7_reasonOf 72 = .ok (.goto 22, 3) := by decide +kernel
theorem dX7_reasonOf_75 : decode cX7_reasonOf 75 = .ok (.aload_n 0, 1) := by decide +kernel
theorem dX7_reasonOf_76 : decode cX7_reasonOf 76 = .ok (.iload_n 1, 1) := by decide +kernel
theorem dX7_reasonOf_77 : decode cX7_reasonOf 77 = .ok (.invokevirtual 83, 3) := by decide +kernel
theorem dX7_reasonOf_80 : decode cX7_reasonOf 80 = .ok (.aload_n 0, 1) := by decide +kernel
theorem dX7_reasonOf_81 : decode cX7_reasonOf 81 = .ok (.getfield 7, 3) := by decide +kernel
theorem dX7_reasonOf_84 : decode cX7_reasonOf 84 = .ok (.iconst 4, 1) := by decide +kernel
theorem dX7_reasonOf_85 : decode cX7_reasonOf 85 = .ok (.iaload, 1) := by decide +kernel
theorem dX7_reasonOf_86 : decode cX7_reasonOf 86 = .ok (.if_icmp .ge 7, 3) := by decide +kernel
theorem dX7_reasonOf_89 : decode cX7_reasonOf 89 = .ok (.iconst 4, 1) := by decide +kernel
theorem dX7_reasonOf_90 : decode cX7_reasonOf 90 = .ok (.goto 4, 3) := by decide +kernel
theorem dX7_reasonOf_93 : decode cX7_reasonOf 93 = .ok (.iconst 0, 1) := by decide +kernel
theorem dX7_reasonOf_94 : decode cX7_reasonOf 94 = .ok (.ireturn, 1) := by decide +kernel
theorem dX7_bars_0 : decode cX7_bars 0 = .ok (.iconst 0, 1) := by decide +kernel
theorem dX7_bars_1 : decode cX7_bars 1 = .ok (.istore_n 3, 1) := by decide +kernel
theorem dX7_bars_2 : decode cX7_bars 2 = .ok (.aload_n 0, 1) := by decide +kernel
theorem dX7_bars_3 : decode cX7_bars 3 = .ok (.iload_n 1, 1) := by decide +kernel
theorem dX7_bars_4 : decode cX7_bars 4 = .ok (.iconst 0, 1) := by decide +kernel
theorem dX7_bars_5 : decode cX7_bars 5 = .ok (.invokevirtual 56, 3) := by decide +kernel
theorem dX7_bars_8 : decode cX7_bars 8 = .ok (.iconst 1, 1) := by decide +kernel
theorem dX7_bars_9 : decode cX7_bars 9 = .ok (.iadd, 1) := by decide +kernel
theorem dX7_bars_10 : decode cX7_bars 10 = .ok (.istore 4, 2) := by decide +kernel
theorem dX7_bars_12 : decode cX7_bars 12 = .ok (.iload 4, 2) := by decide +kernel
theorem dX7_bars_14 : decode cX7_bars 14 = .ok (.aload_n 0, 1) := by decide +kernel
theorem dX7_bars_15 : decode cX7_bars 15 = .ok (.iload_n 1, 1) := by decide +kernel
theorem dX7_bars_16 : decode cX7_bars 16 = .ok (.invokevirtual 60, 3) := by decide +kernel
theorem dX7_bars_19 : decode cX7_bars 19 = .ok (.if_icmp .ge 55, 3) := by decide +kernel
theorem dX7_bars_22 : decode cX7_bars 22 = .ok (.iload_n 3, 1) := by decide +kernel
theorem dX7_bars_23 : decode cX7_bars 23 = .ok (.iload 4, 2) := by decide +kernel
theorem dX7_bars_25 : decode cX7_bars 25 = .ok (.aload_n 0, 1) := by decide +kernel
theorem dX7_bars_26 : decode cX7_bars 26 = .ok (.getfield 7, 3) := by decide +kernel
theorem dX7_bars_29 : decode cX7_bars 29 = .ok (.iconst 0, 1) := by decide +kernel
theorem dX7_bars_30 : decode cX7_bars 30 = .ok (.iaload, 1) := by decide +kernel
theorem dX7_bars_31 : decode cX7_bars 31 = .ok (.irem, 1) := by decide +kernel
theorem dX7_bars_32 : decode cX7_bars 32 = .ok (.ifCond .ne 33, 3) := by decide +kernel
theorem dX7_bars_35 : decode cX7_bars 35 = .ok (.iload_n 2, 1) := by decide +kernel
theorem dX7_bars_36 : decode cX7_bars 36 = .ok (.ifCond .eq 25, 3) := by decide +kernel
theorem dX7_bars_39 : decode cX7_bars 39 = .ok (.aload_n 0, 1) := by decide +kernel
theorem dX7_bars_40 : decode cX7_bars 40 = .ok (.iload_n 1, 1) := by decide +kernel
theorem dX7_bars_41 : decode cX7_bars 41 = .ok (.iload 4, 2) := by decide +kernel
theorem dX7_bars_43 : decode cX7_bars 43 = .ok (.invokevirtual 86, 3) := by decide +kernel
theorem dX7_bars_46 : decode cX7_bars 46 = .ok (.ifCond .eq 19, 3) := by decide +kernel
theorem dX7_bars_49 : decode cX7_bars 49 = .ok (.aload_n 0, 1) := by decide +kernel
theorem dX7_bars_50 : decode cX7_bars 50 = .ok (.iload_n 1, 1) := by decide +kernel
theorem dX7_bars_51 : decode cX7_bars 51 = .ok (.iload 4, 2) := by decide +kernel
theorem dX7_bars_53 : decode cX7_bars 53 = .ok (.iconst 1, 1) := by decide +kernel
theorem dX7_bars_54 : decode cX7_bars 54 = .ok (.isub, 1) := by decide +kernel
theorem dX7_bars_55 : decode cX7_bars 55 = .ok (.invokevirtual 86, 3) := by decide +kernel
theorem dX7_bars_58 : decode cX7_bars 58 = .ok (.ifCond .eq 7, 3) := by decide +kernel
theorem dX7_bars_61 : decode cX7_bars 61 = .ok (.iconst 1, 1) := by decide +kernel
theorem dX7_bars_62 : decode cX7_bars 62 = .ok (.goto 4, 3) := by decide +kernel
theorem dX7_bars_65 : decode cX7_bars 65 = .ok (.iconst 0, 1) := by decide +kernel
theorem dX7_bars_66 : decode cX7_bars 66 = .ok (.iadd, 1) := by decide +kernel
theorem dX7_bars_67 : decode cX7_bars 67 = .ok (.istore_n 3, 1) := by decide +kernel
theorem dX7_bars_68 : decode cX7_bars 68 = .ok (.iinc 4 1, 3) := by decide +kernel
theorem dX7_bars_71 : decode cX7_bars 71 = .ok (.goto (-59), 3) := by decide +kernel
theorem dX7_bars_74 : decode cX7_bars 74 = .ok (.iload_n 3, 1) := by decide +kernel
theorem dX7_bars_75 : decode cX7_bars 75 = .ok (.ireturn, 1) := by decide +kernel
theorem dX7_pointsOf_0 : decode cX7_pointsOf 0 = .ok (.aload_n 0, 1) := by decide +kernel
theorem dX7_pointsOf_1 : decode cX7_pointsOf 1 = .ok (.getfield 32, 3) := by decide +kernel
theorem dX7_pointsOf_4 : decode cX7_pointsOf 4 = .ok (.iload_n 1, 1) := by decide +kernel
theorem dX7_pointsOf_5 : decode cX7_pointsOf 5 = .ok (.iaload, 1) := by decide +kernel
theorem dX7_pointsOf_6 : decode cX7_pointsOf 6 = .ok (.ifCond .eq 5, 3) := by decide +kernel
theorem dX7_pointsOf_9 : decode cX7_pointsOf 9 = .ok (.iconst 0, 1) := by decide +kernel
theorem dX7_pointsOf_10 : decode cX7_pointsOf 10 = .ok (.ireturn, 1) := by decide +kernel
theorem dX7_pointsOf_11 : decode cX7_pointsOf 11 = .ok (.aload_n 0, 1) := by decide +kernel
theorem dX7_pointsOf_12 : decode cX7_pointsOf 12 = .ok (.iload_n 1, 1) := by decide +kernel
theorem dX7_pointsOf_13 : decode cX7_pointsOf 13 = .ok (.invokevirtual 83, 3) := by decide +kernel
theorem dX7_pointsOf_16 : decode cX7_pointsOf 16 = .ok (.iconst 5, 1) := by decide +kernel
theorem dX7_pointsOf_17 : decode cX7_pointsOf 17 = .ok (.aload_n 0, 1) := by decide +kernel
theorem dX7_pointsOf_18 : decode cX7_pointsOf 18 = .ok (.iload_n 1, 1) := by decide +kernel
theorem dX7_pointsOf_19 : decode cX7_pointsOf 19 = .ok (.iconst 1, 1) := by decide +kernel
theorem dX7_pointsOf_20 : decode cX7_pointsOf 20 = .ok (.invokevirtual 90, 3) := by decide +kernel
theorem dX7_pointsOf_23 : decode cX7_pointsOf 23 = .ok (.imul, 1) := by decide +kernel
theorem dX7_pointsOf_24 : decode cX7_pointsOf 24 = .ok (.iadd, 1) := by decide +kernel
theorem dX7_pointsOf_25 : decode cX7_pointsOf 25 = .ok (.iconst 2, 1) := by decide +kernel
theorem dX7_pointsOf_26 : decode cX7_pointsOf 26 = .ok (.aload_n 0, 1) := by decide +kernel
theorem dX7_pointsOf_27 : decode cX7_pointsOf 27 = .ok (.getfield 29, 3) := by decide +kernel
theorem dX7_pointsOf_30 : decode cX7_pointsOf 30 = .ok (.iload_n 1, 1) := by decide +kernel
theorem dX7_pointsOf_31 : decode cX7_pointsOf 31 = .ok (.iaload, 1) := by decide +kernel
theorem dX7_pointsOf_32 : decode cX7_pointsOf 32 = .ok (.aload_n 0, 1) := by decide +kernel
theorem dX7_pointsOf_33 : decode cX7_pointsOf 33 = .ok (.iload_n 1, 1) := by decide +kernel
theorem dX7_pointsOf_34 : decode cX7_pointsOf 34 = .ok (.iconst 0, 1) := by decide +kernel
theorem dX7_pointsOf_35 : decode cX7_pointsOf 35 = .ok (.invokevirtual 56, 3) := by decide +kernel
theorem dX7_pointsOf_38 : decode cX7_pointsOf 38 = .ok (.isub, 1) := by decide +kernel
theorem dX7_pointsOf_39 : decode cX7_pointsOf 39 = .ok (.invokestatic 77, 3) := by decide +kernel
theorem dX7_pointsOf_42 : decode cX7_pointsOf 42 = .ok (.imul, 1) := by decide +kernel
theorem dX7_pointsOf_43 : decode cX7_pointsOf 43 = .ok (.isub, 1) := by decide +kernel
theorem dX7_pointsOf_44 : decode cX7_pointsOf 44 = .ok (.istore_n 2, 1) := by decide +kernel
theorem dX7_pointsOf_45 : decode cX7_pointsOf 45 = .ok (.iload_n 2, 1) := by decide +kernel
theorem dX7_pointsOf_46 : decode cX7_pointsOf 46 = .ok (.ifCond .ge 7, 3) := by decide +kernel
theorem dX7_pointsOf_49 : decode cX7_pointsOf 49 = .ok (.iconst 0, 1) := by decide +kernel
theorem dX7_pointsOf_50 : decode cX7_pointsOf 50 = .ok (.goto 17, 3) := by decide +kernel
theorem dX7_pointsOf_53 : decode cX7_pointsOf 53 = .ok (.iload_n 2, 1) := by decide +kernel
theorem dX7_pointsOf_54 : decode cX7_pointsOf 54 = .ok (.bipush 10, 2) := by decide +kernel
theorem dX7_pointsOf_56 : decode cX7_pointsOf 56 = .ok (.aload_n 0, 1) := by decide +kernel
theorem dX7_pointsOf_57 : decode cX7_pointsOf 57 = .ok (.getfield 35, 3) := by decide +kernel
theorem dX7_pointsOf_60 : decode cX7_pointsOf 60 = .ok (.iload_n 1, 1) := by decide +kernel
theorem dX7_pointsOf_61 : decode cX7_pointsOf 61 = .ok (.iaload, 1) := by decide +kernel
theorem dX7_pointsOf_62 : decode cX7_pointsOf 62 = .ok (.iadd, 1) := by decide +kernel
theorem dX7_pointsOf_63 : decode cX7_pointsOf 63 = .ok (.imul, 1) := by decide +kernel
theorem dX7_pointsOf_64 : decode cX7_pointsOf 64 = .ok (.bipush 10, 2) := by decide +kernel
theorem dX7_pointsOf_66 : decode cX7_pointsOf 66 = .ok (.idiv, 1) := by decide +kernel
theorem dX7_pointsOf_67 : decode cX7_pointsOf 67 = .ok (.ireturn, 1) := by decide +kernel
theorem dX7_judge_0 : decode cX7_judge 0 = .ok (.iconst 0, 1) := by decide +kernel
theorem dX7_judge_1 : decode cX7_judge 1 = .ok (.istore_n 1, 1) := by decide +kernel
theorem dX7_judge_2 : decode cX7_judge 2 = .ok (.iconst 0, 1) := by decide +kernel
theorem dX7_judge_3 : decode cX7_judge 3 = .ok (.istore_n 2, 1) := by decide +kernel
theorem dX7_judge_4 : decode cX7_judge 4 = .ok (.iload_n 2, 1) := by decide +kernel
theorem dX7_judge_5 : decode cX7_judge 5 = .ok (.aload_n 0, 1) := by decide +kernel
theorem dX7_judge_6 : decode cX7_judge 6 = .ok (.getfield 7, 3) := by decide +kernel
theorem dX7_judge_9 : decode cX7_judge 9 = .ok (.iconst 5, 1) := by decide +kernel
theorem dX7_judge_10 : decode cX7_judge 10 = .ok (.iaload, 1) := by decide +kernel
theorem dX7_judge_11 : decode cX7_judge 11 = .ok (.if_icmp .ge 145, 3) := by decide +kernel
theorem dX7_judge_14 : decode cX7_judge 14 = .ok (.aload_n 0, 1) := by decide +kernel
theorem dX7_judge_15 : decode cX7_judge 15 = .ok (.getfield 26, 3) := by decide +kernel
theorem dX7_judge_18 : decode cX7_judge 18 = .ok (.iload_n 2, 1) := by decide +kernel
theorem dX7_judge_19 : decode cX7_judge 19 = .ok (.iconst 0, 1) := by decide +kernel
theorem dX7_judge_20 : decode cX7_judge 20 = .ok (.iastore, 1) := by decide +kernel
theorem dX7_judge_21 : decode cX7_judge 21 = .ok (.aload_n 0, 1) := by decide +kernel
theorem dX7_judge_22 : decode cX7_judge 22 = .ok (.iload_n 2, 1) := by decide +kernel
theorem dX7_judge_23 : decode cX7_judge 23 = .ok (.iconst 0, 1) := by decide +kernel
theorem dX7_judge_24 : decode cX7_judge 24 = .ok (.invokevirtual 56, 3) := by decide +kernel
theorem dX7_judge_27 : decode cX7_judge 27 = .ok (.istore_n 3, 1) := by decide +kernel
theorem dX7_judge_28 : decode cX7_judge 28 = .ok (.iload_n 3, 1) := by decide +kernel
theorem dX7_judge_29 : decode cX7_judge 29 = .ok (.aload_n 0, 1) := by decide +kernel
theorem dX7_judge_30 : decode cX7_judge 30 = .ok (.iload_n 2, 1) := by decide +kernel
theorem dX7_judge_31 : decode cX7_judge 31 = .ok (.invokevirtual 60, 3) := by decide +kernel
theorem dX7_judge_34 : decode cX7_judge 34 = .ok (.if_icmp .ge 32, 3) := by decide +kernel
theorem dX7_judge_37 : decode cX7_judge 37 = .ok (.aload_n 0, 1) := by decide +kernel
theorem dX7_judge_38 : decode cX7_judge 38 = .ok (.getfield 26, 3) := by decide +kernel
theorem dX7_judge_41 : decode cX7_judge 41 = .ok (.iload_n 2, 1) := by decide +kernel
theorem dX7_judge_42 : decode cX7_judge 42 = .ok (.dup2, 1) := by decide +kernel
theorem dX7_judge_43 : decode cX7_judge 43 = .ok (.iaload, 1) := by decide +kernel
theorem dX7_judge_44 : decode cX7_judge 44 = .ok (.aload_n 0, 1) := by decide +kernel
theorem dX7_judge_45 : decode cX7_judge 45 = .ok (.iload_n 2, 1) := by decide +kernel
theorem dX7_judge_46 : decode cX7_judge 46 = .ok (.iload_n 3, 1) := by decide +kernel
theorem dX7_judge_47 : decode cX7_judge 47 = .ok (.invokevirtual 86, 3) := by decide +kernel
theorem dX7_judge_50 : decode cX7_judge 50 = .ok (.ifCond .eq 7, 3) := by decide +kernel
theorem dX7_judge_53 : decode cX7_judge 53 = .ok (.iconst 1, 1) := by decide +kernel
theorem dX7_judge_54 : decode cX7_judge 54 = .ok (.goto 4, 3) := by decide +kernel
theorem dX7_judge_57 : decode cX7_judge 57 = .ok (.iconst 0, 1) := by decide +kernel
theorem dX7_judge_58 : decode cX7_judge 58 = .ok (.iadd, 1) := by decide +kernel
theorem dX7_judge_59 : decode cX7_judge 59 = .ok (.iastore, 1) := by decide +kernel
theorem dX7_judge_60 : decode cX7_judge 60 = .ok (.iinc 3 1, 3) := by decide +kernel
theorem dX7_judge_63 : decode cX7_judge 63 = .ok (.goto (-35), 3) := by decide +kernel
theorem dX7_judge_66 : decode cX7_judge 66 = .ok (.aload_n 0, 1) := by decide +kernel
theorem dX7_judge_67 : decode cX7_judge 67 = .ok (.getfield 29, 3) := by decide +kernel
theorem dX7_judge_70 : decode cX7_judge 70 = .ok (.iload_n 2, 1) := by decide +kernel
theorem dX7_judge_71 : decode cX7_judge 71 = .ok (.aload_n 0, 1) := by decide +kernel
theorem dX7_judge_72 : decode cX7_judge 72 = .ok (.iload_n 2, 1) := by decide +kernel
theorem dX7_judge_73 : decode cX7_judge 73 = .ok (.invokevirtual 94, 3) := by decide +kernel
theorem dX7_judge_76 : decode cX7_judge 76 = .ok (.iastore, 1) := by decide +kernel
theorem dX7_judge_77 : decode cX7_judge 77 = .ok (.aload_n 0, 1) := by decide +kernel
theorem dX7_judge_78 : decode cX7_judge 78 = .ok (.getfield 32, 3) := by decide +kernel
theorem dX7_judge_81 : decode cX7_judge 81 = .ok (.iload_n 2, 1) := by decide +kernel
theorem dX7_judge_82 : decode cX7_judge 82 = .ok (.aload_n 0, 1) := by decide +kernel
theorem dX7_judge_83 : decode cX7_judge 83 = .ok (.iload_n 2, 1) := by decide +kernel
theorem dX7_judge_84 : decode cX7_judge 84 = .ok (.invokevirtual 97, 3) := by decide +kernel
theorem dX7_judge_87 : decode cX7_judge 87 = .ok (.iastore, 1) := by decide +kernel
theorem dX7_judge_88 : decode cX7_judge 88 = .ok (.aload_n 0, 1) := by decide +kernel
theorem dX7_judge_89 : decode cX7_judge 89 = .ok (.iload_n 2, 1) := by decide +kernel
theorem dX7_judge_90 : decode cX7_judge 90 = .ok (.iconst 4, 1) := by decide +kernel
theorem dX7_judge_91 : decode cX7_judge 91 = .ok (.invokevirtual 56, 3) := by decide +kernel
theorem dX7_judge_94 : decode cX7_judge 94 = .ok (.iconst 1, 1) := by decide +kernel
theorem dX7_judge_95 : decode cX7_judge 95 = .ok (.if_icmp .ne 7, 3) := by decide +kernel
theorem dX7_judge_98 : decode cX7_judge 98 = .ok (.iconst 0, 1) := by decide +kernel
theorem dX7_judge_99 : decode cX7_judge 99 = .ok (.goto 4, 3) := by decide +kernel
theorem dX7_judge_102 : decode cX7_judge 102 = .ok (.iload_n 1, 1) := by decide +kernel
theorem dX7_judge_103 : decode cX7_judge 103 = .ok (.istore_n 1, 1) := by decide +kernel
theorem dX7_judge_104 : decode cX7_judge 104 = .ok (.aload_n 0, 1) := by decide +kernel
theorem dX7_judge_105 : decode cX7_judge 105 = .ok (.getfield 35, 3) := by decide +kernel
theorem dX7_judge_108 : decode cX7_judge 108 = .ok (.iload_n 2, 1) := by decide +kernel
theorem dX7_judge_109 : decode cX7_judge 109 = .ok (.iload_n 1, 1) := by decide +kernel
theorem dX7_judge_110 : decode cX7_judge 110 = .ok (.bipush 10, 2) := by decide +kernel
theorem dX7_judge_112 : decode cX7_judge 112 = .ok (.if_icmp .ge 7, 3) := by decide +kernel
theorem dX7_judge_115 : decode cX7_judge 115 = .ok (.iload_n 1, 1) := by decide +kernel
theorem dX7_judge_116 : decode cX7_judge 116 = .ok (.goto 5, 3) := by decide +kernel
theorem dX7_judge_119 : decode cX7_judge 119 = .ok (.bipush 10, 2) := by decide +kernel
theorem dX7_judge_121 : decode cX7_judge 121 = .ok (.iastore, 1) := by decide +kernel
theorem dX7_judge_122 : decode cX7_judge 122 = .ok (.aload_n 0, 1) := by decide +kernel
theorem dX7_judge_123 : decode cX7_judge 123 = .ok (.getfield 32, 3) := by decide +kernel
theorem dX7_judge_126 : decode cX7_judge 126 = .ok (.iload_n 2, 1) := by decide +kernel
theorem dX7_judge_127 : decode cX7_judge 127 = .ok (.iaload, 1) := by decide +kernel
theorem dX7_judge_128 : decode cX7_judge 128 = .ok (.ifCond .ne 9, 3) := by decide +kernel
theorem dX7_judge_131 : decode cX7_judge 131 = .ok (.iload_n 1, 1) := by decide +kernel
theorem dX7_judge_132 : decode cX7_judge 132 = .ok (.iconst 1, 1) := by decide +kernel
theorem dX7_judge_133 : decode cX7_judge 133 = .ok (.iadd, 1) := by decide +kernel
theorem dX7_judge_134 : decode cX7_judge 134 = .ok (.goto 4, 3) := by decide +kernel
theorem dX7_judge_137 : decode cX7_judge 137 = .ok (.iconst 0, 1) := by decide +kernel
theorem dX7_judge_138 : decode cX7_judge 138 = .ok (.istore_n 1, 1) := by decide +kernel
theorem dX7_judge_139 : decode cX7_judge 139 = .ok (.aload_n 0, 1) := by decide +kernel
theorem dX7_judge_140 : decode cX7_judge 140 = .ok (.getfield 38, 3) := by decide +kernel
theorem dX7_judge_143 : decode cX7_judge 143 = .ok (.iload_n 2, 1) := by decide +kernel
theorem dX7_judge_144 : decode cX7_judge 144 = .ok (.aload_n 0, 1) := by decide +kernel
theorem dX7_judge_145 : decode cX7_judge 145 = .ok (.iload_n 2, 1) := by decide +kernel
theorem dX7_judge_146 : decode cX7_judge 146 = .ok (.invokevirtual 100, 3) := by decide +kernel
theorem dX7_judge_149 : decode cX7_judge 149 = .ok (.iastore, 1) := by decide +kernel
theorem dX7_judge_150 : decode cX7_judge 150 = .ok (.iinc 2 1, 3) := by decide +kernel
theorem dX7_judge_153 : decode cX7_judge 153 = .ok (.goto (-149), 3) := by decide +kernel
theorem dX7_judge_156 : decode cX7_judge 156 = .ok (.return_, 1) := by decide +kernel
theorem dX7_judgeSong_0 : decode cX7_judgeSong 0 = .ok (.aload_n 0, 1) := by decide +kernel
theorem dX7_judgeSong_1 : decode cX7_judgeSong 1 = .ok (.iconst 0, 1) := by decide +kernel
theorem dX7_judgeSong_2 : decode cX7_judgeSong 2 = .ok (.iconst 0, 1) := by decide +kernel
theorem dX7_judgeSong_3 : decode cX7_judgeSong 3 = .ok (.invokevirtual 103, 3) := by decide +kernel
theorem dX7_judgeSong_6 : decode cX7_judgeSong 6 = .ok (.aload_n 0, 1) := by decide +kernel
theorem dX7_judgeSong_7 : decode cX7_judgeSong 7 = .ok (.invokevirtual 107, 3) := by decide +kernel
theorem dX7_judgeSong_10 : decode cX7_judgeSong 10 = .ok (.return_, 1) := by decide +kernel
theorem dX7_ofPhrase_0 : decode cX7_ofPhrase 0 = .ok (.bipush (-5), 2) := by decide +kernel
theorem dX7_ofPhrase_2 : decode cX7_ofPhrase 2 = .ok (.istore_n 3, 1) := by decide +kernel
theorem dX7_ofPhrase_3 : decode cX7_ofPhrase 3 = .ok (.iconst 0, 1) := by decide +kernel
theorem dX7_ofPhrase_4 : decode cX7_ofPhrase 4 = .ok (.istore 4, 2) := by decide +kernel
theorem dX7_ofPhrase_6 : decode cX7_ofPhrase 6 = .ok (.iconst 0, 1) := by decide +kernel
theorem dX7_ofPhrase_7 : decode cX7_ofPhrase 7 = .ok (.istore 5, 2) := by decide +kernel
theorem dX7_ofPhrase_9 : decode cX7_ofPhrase 9 = .ok (.iconst 0, 1) := by decide +kernel
theorem dX7_ofPhrase_10 : decode cX7_ofPhrase 10 = .ok (.istore 6, 2) := by decide +kernel
theorem dX7_ofPhrase_12 : decode cX7_ofPhrase 12 = .ok (.iconst 0, 1) := by decide +kernel
theorem dX7_ofPhrase_13 : decode cX7_ofPhrase 13 = .ok (.istore 7, 2) := by decide +kernel
theorem dX7_ofPhrase_15 : decode cX7_ofPhrase 15 = .ok (.iconst 0, 1) := by decide +kernel
theorem dX7_ofPhrase_16 : decode cX7_ofPhrase 16 = .ok (.istore 8, 2) := by decide +kernel
theorem dX7_ofPhrase_18 : decode cX7_ofPhrase 18 = .ok (.iconst 0, 1) := by decide +kernel
theorem dX7_ofPhrase_19 : decode cX7_ofPhrase 19 = .ok (.istore 9, 2) := by decide +kernel
theorem dX7_ofPhrase_21 : decode cX7_ofPhrase 21 = .ok (.iload 9, 2) := by decide +kernel
theorem dX7_ofPhrase_23 : decode cX7_ofPhrase 23 = .ok (.aload_n 0, 1) := by decide +kernel
theorem dX7_ofPhrase_24 : decode cX7_ofPhrase 24 = .ok (.getfield 7, 3) := by decide +kernel
theorem dX7_ofPhrase_27 : decode cX7_ofPhrase 27 = .ok (.iconst 5, 1) := by decide +kernel
theorem dX7_ofPhrase_28 : decode cX7_ofPhrase 28 = .ok (.iaload, 1) := by decide +kernel
theorem dX7_ofPhrase_29 : decode cX7_ofPhrase 29 = .ok (.if_icmp .ge 103, 3) := by decide +kernel
theorem dX7_ofPhrase_32 : decode cX7_ofPhrase 32 = .ok (.aload_n 0, 1) := by decide +kernel
theorem dX7_ofPhrase_33 : decode cX7_ofPhrase 33 = .ok (.iload 9, 2) := by decide +kernel
theorem dX7_ofPhrase_35 : decode cX7_ofPhrase 35 = .ok (.invokevirtual 64, 3) := by decide +kernel
theorem dX7_ofPhrase_38 : decode cX7_ofPhrase 38 = .ok (.iload_n 1, 1) := by decide +kernel
theorem dX7_ofPhrase_39 : decode cX7_ofPhrase 39 = .ok (.if_icmp .ne 87, 3) := by decide +kernel
theorem dX7_ofPhrase_42 : decode cX7_ofPhrase 42 = .ok (.iload_n 3, 1) := by decide +kernel
theorem dX7_ofPhrase_43 : decode cX7_ofPhrase 43 = .ok (.bipush (-5), 2) := by decide +kernel
theorem dX7_ofPhrase_45 : decode cX7_ofPhrase 45 = .ok (.if_icmp .ne 8, 3) := by decide +kernel
theorem dX7_ofPhrase_48 : decode cX7_ofPhrase 48 = .ok (.iload 9, 2) := by decide +kernel
theorem dX7_ofPhrase_50 : decode cX7_ofPhrase 50 = .ok (.goto 4, 3) := by decide +kernel
theorem dX7_ofPhrase_53 : decode cX7_ofPhrase 53 = .ok (.iload_n 3, 1) := by decide +kernel
theorem dX7_ofPhrase_54 : decode cX7_ofPhrase 54 = .ok (.istore_n 3, 1) := by decide +kernel
theorem dX7_ofPhrase_55 : decode cX7_ofPhrase 55 = .ok (.iinc 4 1, 3) := by decide +kernel
theorem dX7_ofPhrase_58 : decode cX7_ofPhrase 58 = .ok (.iload 5, 2) := by decide +kernel
theorem dX7_ofPhrase_60 : decode cX7_ofPhrase 60 = .ok (.aload_n 0, 1) := by decide +kernel
theorem dX7_ofPhrase_61 : decode cX7_ofPhrase 61 = .ok (.getfield 32, 3) := by decide +kernel
theorem dX7_ofPhrase_64 : decode cX7_ofPhrase 64 = .ok (.iload 9, 2) := by decide +kernel
theorem dX7_ofPhrase_66 : decode cX7_ofPhrase 66 = .ok (.iaload, 1) := by decide +kernel
theorem dX7_ofPhrase_67 : decode cX7_ofPhrase 67 = .ok (.ifCond .ne 7, 3) := by decide +kernel
theorem dX7_ofPhrase_70 : decode cX7_ofPhrase 70 = .ok (.iconst 1, 1) := by decide +kernel
theorem dX7_ofPhrase_71 : decode cX7_ofPhrase 71 = .ok (.goto 4, 3) := by decide +kernel
theorem dX7_ofPhrase_74 : decode cX7_ofPhrase 74 = .ok (.iconst 0, 1) := by decide +kernel
theorem dX7_ofPhrase_75 : decode cX7_ofPhrase 75 = .ok (.iadd, 1) := by decide +kernel
theorem dX7_ofPhrase_76 : decode cX7_ofPhrase 76 = .ok (.istore 5, 2) := by decide +kernel
theorem dX7_ofPhrase_78 : decode cX7_ofPhrase 78 = .ok (.iload 6, 2) := by decide +kernel
theorem dX7_ofPhrase_80 : decode cX7_ofPhrase 80 = .ok (.aload_n 0, 1) := by decide +kernel
theorem dX7_ofPhrase_81 : decode cX7_ofPhrase 81 = .ok (.getfield 38, 3) := by decide +kernel
theorem dX7_ofPhrase_84 : decode cX7_ofPhrase 84 = .ok (.iload 9, 2) := by decide +kernel
theorem dX7_ofPhrase_86 : decode cX7_ofPhrase 86 = .ok (.iaload, 1) := by decide +kernel
theorem dX7_ofPhrase_87 : decode cX7_ofPhrase 87 = .ok (.iadd, 1) := by decide +kernel
theorem dX7_ofPhrase_88 : decode cX7_ofPhrase 88 = .ok (.istore 6, 2) := by decide +kernel
theorem dX7_ofPhrase_90 : decode cX7_ofPhrase 90 = .ok (.aload_n 0, 1) := by decide +kernel
theorem dX7_ofPhrase_91 : decode cX7_ofPhrase 91 = .ok (.getfield 32, 3) := by decide +kernel
theorem dX7_ofPhrase_94 : decode cX7_ofPhrase 94 = .ok (.iload 9, 2) := by decide +kernel
theorem dX7_ofPhrase_96 : decode cX7_ofPhrase 96 = .ok (.iaload, 1) := by decide +kernel
theorem dX7_ofPhrase_97 : decode cX7_ofPhrase 97 = .ok (.ifCond .ne 10, 3) := by decide +kernel
theorem dX7_ofPhrase_100 : decode cX7_ofPhrase 100 = .ok (.iload 8, 2) := by decide +kernel
theorem dX7_ofPhrase_102 : decode cX7_ofPhrase 102 = .ok (.iconst 1, 1) := by decide +kernel
theorem dX7_ofPhrase_103 : decode cX7_ofPhrase 103 = .ok (.iadd, 1) := by decide +kernel
theorem dX7_ofPhrase_104 : decode cX7_ofPhrase 104 = .ok (.goto 4, 3) := by decide +kernel
theorem dX7_ofPhrase_107 : decode cX7_ofPhrase 107 = .ok (.iconst 0, 1) := by decide +kernel
theorem dX7_ofPhrase_108 : decode cX7_ofPhrase 108 = .ok (.istore 8, 2) := by decide +kernel
theorem dX7_ofPhrase_110 : decode cX7_ofPhrase 110 = .ok (.iload 8, 2) := by decide +kernel
theorem dX7_ofPhrase_112 : decode cX7_ofPhrase 112 = .ok (.iload 7, 2) := by decide +kernel
theorem dX7_ofPhrase_114 : decode cX7_ofPhrase 114 = .ok (.if_icmp .le 8, 3) := by decide +kernel
theorem dX7_ofPhrase_117 : decode cX7_ofPhrase 117 = .ok (.iload 8, 2) := by decide +kernel
theorem dX7_ofPhrase_119 : decode cX7_ofPhrase 119 = .ok (.goto 5, 3) := by decide +kernel
theorem dX7_ofPhrase_122 : decode cX7_ofPhrase 122 = .ok (.iload 7, 2) := by decide +kernel
theorem dX7_ofPhrase_124 : decode cX7_ofPhrase 124 = .ok (.istore 7, 2) := by decide +kernel
theorem dX7_ofPhrase_126 : decode cX7_ofPhrase 126 = .ok (.iinc 9 1, 3) := by decide +kernel
theorem dX7_ofPhrase_129 : decode cX7_ofPhrase 129 = .ok (.goto (-108), 3) := by decide +kernel
theorem dX7_ofPhrase_132 : decode cX7_ofPhrase 132 = .ok (.iload 6, 2) := by decide +kernel
theorem dX7_ofPhrase_134 : decode cX7_ofPhrase 134 = .ok (.iload 4, 2) := by decide +kernel
theorem dX7_ofPhrase_136 : decode cX7_ofPhrase 136 = .ok (.iconst 1, 1) := by decide +kernel
theorem dX7_ofPhrase_137 : decode cX7_ofPhrase 137 = .ok (.if_icmp .le 15, 3) := by decide +kernel
theorem dX7_ofPhrase_140 : decode cX7_ofPhrase 140 = .ok (.iload 5, 2) := by decide +kernel
theorem dX7_ofPhrase_142 : decode cX7_ofPhrase 142 = .ok (.iload 4, 2) := by decide +kernel
theorem dX7_ofPhrase_144 : decode cX7_ofPhrase 144 = .ok (.if_icmp .ne 8, 3) := by decide +kernel
theorem dX7_ofPhrase_147 : decode cX7_ofPhrase 147 = .ok (.bipush 50, 2) := by decide +kernel
theorem dX7_ofPhrase_149 : decode cX7_ofPhrase 149 = .ok (.goto 4, 3) := by decide +kernel
theorem dX7_ofPhrase_152 : decode cX7_ofPhrase 152 = .ok (.iconst 0, 1) := by decide +kernel
theorem dX7_ofPhrase_153 : decode cX7_ofPhrase 153 = .ok (.iadd, 1) := by decide +kernel
theorem dX7_ofPhrase_154 : decode cX7_ofPhrase 154 = .ok (.istore 6, 2) := by decide +kernel
theorem dX7_ofPhrase_156 : decode cX7_ofPhrase 156 = .ok (.iload_n 2, 1) := by decide +kernel
theorem dX7_ofPhrase_157 : decode cX7_ofPhrase 157 = .ok (.ifCond .ne 7, 3) := by decide +kernel
theorem dX7_ofPhrase_160 : decode cX7_ofPhrase 160 = .ok (.iload_n 3, 1) := by decide +kernel
theorem dX7_ofPhrase_161 : decode cX7_ofPhrase 161 = .ok (.goto 35, 3) := by decide +kernel
theorem dX7_ofPhrase_164 : decode cX7_ofPhrase 164 = .ok (.iload_n 2, 1) := by decide +kernel
theorem dX7_ofPhrase_165 : decode cX7_ofPhrase 165 = .ok (.iconst 1, 1) := by decide +kernel
theorem dX7_ofPhrase_166 : decode cX7_ofPhrase 166 = .ok (.if_icmp .ne 8, 3) := by decide +kernel
theorem dX7_ofPhrase_169 : decode cX7_ofPhrase 169 = .ok (.iload 4, 2) := by decide +kernel
theorem dX7_ofPhrase_171 : decode cX7_ofPhrase 171 = .ok (.goto 25, 3) := by decide +kernel
theorem dX7_ofPhrase_174 : decode cX7_ofPhrase 174 = .ok (.iload_n 2, 1) := by decide +kernel
theorem dX7_ofPhrase_175 : decode cX7_ofPhrase 175 = .ok (.iconst 2, 1) := by decide +kernel
theorem dX7_ofPhrase_176 : decode cX7_ofPhrase 176 = .ok (.if_icmp .ne 8, 3) := by decide +kernel
theorem dX7_ofPhrase_179 : decode cX7_ofPhrase 179 = .ok (.iload 5, 2) := by decide +kernel
theorem dX7_ofPhrase_181 : decode cX7_ofPhrase 181 = .ok (.goto 15, 3) := by decide +kernel
theorem dX7_ofPhrase_184 : decode cX7_ofPhrase 184 = .ok (.iload_n 2, 1) := by decide +kernel
theorem dX7_ofPhrase_185 : decode cX7_ofPhrase 185 = .ok (.iconst 3, 1) := by decide +kernel
theorem dX7_ofPhrase_186 : decode cX7_ofPhrase 186 = .ok (.if_icmp .ne 8, 3) := by decide +kernel
theorem dX7_ofPhrase_189 : decode cX7_ofPhrase 189 = .ok (.iload 6, 2) := by decide +kernel
theorem dX7_ofPhrase_191 : decode cX7_ofPhrase 191 = .ok (.goto 5, 3) := by decide +kernel
theorem dX7_ofPhrase_194 : decode cX7_ofPhrase 194 = .ok (.iload 7, 2) := by decide +kernel
theorem dX7_ofPhrase_196 : decode cX7_ofPhrase 196 = .ok (.ireturn, 1) := by decide +kernel
theorem dX7_allPoints_0 : decode cX7_allPoints 0 = .ok (.iconst 0, 1) := by decide +kernel
theorem dX7_allPoints_1 : decode cX7_allPoints 1 = .ok (.istore_n 1, 1) := by decide +kernel
theorem dX7_allPoints_2 : decode cX7_allPoints 2 = .ok (.iconst 0, 1) := by decide +kernel
theorem dX7_allPoints_3 : decode cX7_allPoints 3 = .ok (.istore_n 2, 1) := by decide +kernel
theorem dX7_allPoints_4 : decode cX7_allPoints 4 = .ok (.iload_n 2, 1) := by decide +kernel
theorem dX7_allPoints_5 : decode cX7_allPoints 5 = .ok (.aload_n 0, 1) := by decide +kernel
theorem dX7_allPoints_6 : decode cX7_allPoints 6 = .ok (.invokevirtual 110, 3) := by decide +kernel
theorem dX7_allPoints_9 : decode cX7_allPoints 9 = .ok (.if_icmp .ge 18, 3) := by decide +kernel
theorem dX7_allPoints_12 : decode cX7_allPoints 12 = .ok (.iload_n 1, 1) := by decide +kernel
theorem dX7_allPoints_13 : decode cX7_allPoints 13 = .ok (.aload_n 0, 1) := by decide +kernel
theorem dX7_allPoints_14 : decode cX7_allPoints 14 = .ok (.iload_n 2, 1) := by decide +kernel
theorem dX7_allPoints_15 : decode cX7_allPoints 15 = .ok (.iconst 3, 1) := by decide +kernel
theorem dX7_allPoints_16 : decode cX7_allPoints 16 = .ok (.invokevirtual 114, 3) := by decide +kernel
theorem dX7_allPoints_19 : decode cX7_allPoints 19 = .ok (.iadd, 1) := by decide +kernel
theorem dX7_allPoints_20 : decode cX7_allPoints 20 = .ok (.istore_n 1, 1) := by decide +kernel
theorem dX7_allPoints_21 : decode cX7_allPoints 21 = .ok (.iinc 2 1, 3) := by decide +kernel
theorem dX7_allPoints_24 : decode cX7_allPoints 24 = .ok (.goto (-20), 3) := by decide +kernel
theorem dX7_allPoints_27 : decode cX7_allPoints 27 = .ok (.iload_n 1, 1) := by decide +kernel
theorem dX7_allPoints_28 : decode cX7_allPoints 28 = .ok (.ireturn, 1) := by decide +kernel
theorem dX7_hits_0 : decode cX7_hits 0 = .ok (.iconst 0, 1) := by decide +kernel
theorem dX7_hits_1 : decode cX7_hits 1 = .ok (.istore_n 1, 1) := by decide +kernel
theorem dX7_hits_2 : decode cX7_hits 2 = .ok (.iconst 0, 1) := by decide +kernel
theorem dX7_hits_3 : decode cX7_hits 3 = .ok (.istore_n 2, 1) := by decide +kernel
theorem dX7_hits_4 : decode cX7_hits 4 = .ok (.iload_n 2, 1) := by decide +kernel
theorem dX7_hits_5 : decode cX7_hits 5 = .ok (.aload_n 0, 1) := by decide +kernel
theorem dX7_hits_6 : decode cX7_hits 6 = .ok (.getfield 7, 3) := by decide +kernel
theorem dX7_hits_9 : decode cX7_hits 9 = .ok (.iconst 5, 1) := by decide +kernel
theorem dX7_hits_10 : decode cX7_hits 10 = .ok (.iaload, 1) := by decide +kernel
theorem dX7_hits_11 : decode cX7_hits 11 = .ok (.if_icmp .ge 26, 3) := by decide +kernel
theorem dX7_hits_14 : decode cX7_hits 14 = .ok (.iload_n 1, 1) := by decide +kernel
theorem dX7_hits_15 : decode cX7_hits 15 = .ok (.aload_n 0, 1) := by decide +kernel
theorem dX7_hits_16 : decode cX7_hits 16 = .ok (.getfield 32, 3) := by decide +kernel
theorem dX7_hits_19 : decode cX7_hits 19 = .ok (.iload_n 2, 1) := by decide +kernel
theorem dX7_hits_20 : decode cX7_hits 20 = .ok (.iaload, 1) := by decide +kernel
theorem dX7_hits_21 : decode cX7_hits 21 = .ok (.ifCond .ne 7, 3) := by decide +kernel
theorem dX7_hits_24 : decode cX7_hits 24 = .ok (.iconst 1, 1) := by decide +kernel
theorem dX7_hits_25 : decode cX7_hits 25 = .ok (.goto 4, 3) := by decide +kernel
theorem dX7_hits_28 : decode cX7_hits 28 = .ok (.iconst 0, 1) := by decide +kernel
theorem dX7_hits_29 : decode cX7_hits 29 = .ok (.iadd, 1) := by decide +kernel
theorem dX7_hits_30 : decode cX7_hits 30 = .ok (.istore_n 1, 1) := by decide +kernel
theorem dX7_hits_31 : decode cX7_hits 31 = .ok (.iinc 2 1, 3) := by decide +kernel
theorem dX7_hits_34 : decode cX7_hits 34 = .ok (.goto (-30), 3) := by decide +kernel
theorem dX7_hits_37 : decode cX7_hits 37 = .ok (.iload_n 1, 1) := by decide +kernel
theorem dX7_hits_38 : decode cX7_hits 38 = .ok (.ireturn, 1) := by decide +kernel
theorem dX7_mostPoints_0 : decode cX7_mostPoints 0 = .ok (.iconst 0, 1) := by decide +kernel
theorem dX7_mostPoints_1 : decode cX7_mostPoints 1 = .ok (.istore_n 1, 1) := by decide +kernel
theorem dX7_mostPoints_2 : decode cX7_mostPoints 2 = .ok (.iconst 0, 1) := by decide +kernel
theorem dX7_mostPoints_3 : decode cX7_mostPoints 3 = .ok (.istore_n 2, 1) := by decide +kernel
theorem dX7_mostPoints_4 : decode cX7_mostPoints 4 = .ok (.iconst 0, 1) := by decide +kernel
theorem dX7_mostPoints_5 : decode cX7_mostPoints 5 = .ok (.istore_n 3, 1) := by decide +kernel
theorem dX7_mostPoints_6 : decode cX7_mostPoints 6 = .ok (.iload_n 3, 1) := by decide +kernel
theorem dX7_mostPoints_7 : decode cX7_mostPoints 7 = .ok (.aload_n 0, 1) := by decide +kernel
theorem dX7_mostPoints_8 : decode cX7_mostPoints 8 = .ok (.getfield 7, 3) := by decide +kernel
theorem dX7_mostPoints_11 : decode cX7_mostPoints 11 = .ok (.iconst 5, 1) := by decide +kernel
theorem dX7_mostPoints_12 : decode cX7_mostPoints 12 = .ok (.iaload, 1) := by decide +kernel
theorem dX7_mostPoints_13 : decode cX7_mostPoints 13 = .ok (.if_icmp .ge 75, 3) := by decide +kernel
theorem dX7_mostPoints_16 : decode cX7_mostPoints 16 = .ok (.aload_n 0, 1) := by decide +kernel
theorem dX7_mostPoints_17 : decode cX7_mostPoints 17 = .ok (.iload_n 3, 1) := by decide +kernel
theorem dX7_mostPoints_18 : decode cX7_mostPoints 18 = .ok (.iconst 4, 1) := by decide +kernel
theorem dX7_mostPoints_19 : decode cX7_mostPoints 19 = .ok (.invokevirtual 56, 3) := by decide +kernel
theorem dX7_mostPoints_22 : decode cX7_mostPoints 22 = .ok (.iconst 1, 1) := by decide +kernel
theorem dX7_mostPoints_23 : decode cX7_mostPoints 23 = .ok (.if_icmp .ne 7, 3) := by decide +kernel
theorem dX7_mostPoints_26 : decode cX7_mostPoints 26 = .ok (.iconst 0, 1) := by decide +kernel
theorem dX7_mostPoints_27 : decode cX7_mostPoints 27 = .ok (.goto 4, 3) := by decide +kernel
theorem dX7_mostPoints_30 : decode cX7_mostPoints 30 = .ok (.iload_n 2, 1) := by decide +kernel
theorem dX7_mostPoints_31 : decode cX7_mostPoints 31 = .ok (.istore_n 2, 1) := by decide +kernel
theorem dX7_mostPoints_32 : decode cX7_mostPoints 32 = .ok (.iload_n 1, 1) := by decide +kernel
theorem dX7_mostPoints_33 : decode cX7_mostPoints 33 = .ok (.bipush 100, 2) := by decide +kernel
theorem dX7_mostPoints_35 : decode cX7_mostPoints 35 = .ok (.iconst 5, 1) := by decide +kernel
theorem dX7_mostPoints_36 : decode cX7_mostPoints 36 = .ok (.aload_n 0, 1) := by decide +kernel
theorem dX7_mostPoints_37 : decode cX7_mostPoints 37 = .ok (.iload_n 3, 1) := by decide +kernel
theorem dX7_mostPoints_38 : decode cX7_mostPoints 38 = .ok (.iconst 0, 1) := by decide +kernel
theorem dX7_mostPoints_39 : decode cX7_mostPoints 39 = .ok (.invokevirtual 90, 3) := by decide +kernel
theorem dX7_mostPoints_42 : decode cX7_mostPoints 42 = .ok (.imul, 1) := by decide +kernel
theorem dX7_mostPoints_43 : decode cX7_mostPoints 43 = .ok (.iadd, 1) := by decide +kernel
theorem dX7_mostPoints_44 : decode cX7_mostPoints 44 = .ok (.bipush 10, 2) := by decide +kernel
theorem dX7_mostPoints_46 : decode cX7_mostPoints 46 = .ok (.iload_n 2, 1) := by decide +kernel
theorem dX7_mostPoints_47 : decode cX7_mostPoints 47 = .ok (.bipush 10, 2) := by decide +kernel
theorem dX7_mostPoints_49 : decode cX7_mostPoints 49 = .ok (.if_icmp .ge 7, 3) := by decide +kernel
theorem dX7_mostPoints_52 : decode cX7_mostPoints 52 = .ok (.iload_n 2, 1) := by decide +kernel
theorem dX7_mostPoints_53 : decode cX7_mostPoints 53 = .ok (.goto 5, 3) := by decide +kernel
theorem dX7_mostPoints_56 : decode cX7_mostPoints 56 = .ok (.bipush 10, 2) := by decide +kernel
theorem dX7_mostPoints_58 : decode cX7_mostPoints 58 = .ok (.iadd, 1) := by decide +kernel
theorem dX7_mostPoints_59 : decode cX7_mostPoints 59 = .ok (.imul, 1) := by decide +kernel
theorem dX7_mostPoints_60 : decode cX7_mostPoints 60 = .ok (.bipush 10, 2) := by decide +kernel
theorem dX7_mostPoints_62 : decode cX7_mostPoints 62 = .ok (.idiv, 1) := by decide +kernel
theorem dX7_mostPoints_63 : decode cX7_mostPoints 63 = .ok (.iadd, 1) := by decide +kernel
theorem dX7_mostPoints_64 : decode cX7_mostPoints 64 = .ok (.istore_n 1, 1) := by decide +kernel
theorem dX7_mostPoints_65 : decode cX7_mostPoints 65 = .ok (.iinc 2 1, 3) := by decide +kernel
theorem dX7_mostPoints_68 : decode cX7_mostPoints 68 = .ok (.iload_n 1, 1) := by decide +kernel
theorem dX7_mostPoints_69 : decode cX7_mostPoints 69 = .ok (.iload_n 2, 1) := by decide +kernel
theorem dX7_mostPoints_70 : decode cX7_mostPoints 70 = .ok (.iconst 2, 1) := by decide +kernel
theorem dX7_mostPoints_71 : decode cX7_mostPoints 71 = .ok (.if_icmp .ne 8, 3) := by decide +kernel
theorem dX7_mostPoints_74 : decode cX7_mostPoints 74 = .ok (.bipush 50, 2) := by decide +kernel
theorem dX7_mostPoints_76 : decode cX7_mostPoints 76 = .ok (.goto 4, 3) := by decide +kernel
theorem dX7_mostPoints_79 : decode cX7_mostPoints 79 = .ok (.iconst 0, 1) := by decide +kernel
theorem dX7_mostPoints_80 : decode cX7_mostPoints 80 = .ok (.iadd, 1) := by decide +kernel
theorem dX7_mostPoints_81 : decode cX7_mostPoints 81 = .ok (.istore_n 1, 1) := by decide +kernel
theorem dX7_mostPoints_82 : decode cX7_mostPoints 82 = .ok (.iinc 3 1, 3) := by decide +kernel
theorem dX7_mostPoints_85 : decode cX7_mostPoints 85 = .ok (.goto (-79), 3) := by decide +kernel
theorem dX7_mostPoints_88 : decode cX7_mostPoints 88 = .ok (.iload_n 1, 1) := by decide +kernel
theorem dX7_mostPoints_89 : decode cX7_mostPoints 89 = .ok (.ireturn, 1) := by decide +kernel
theorem dX7_addError_0 : decode cX7_addError 0 = .ok (.iload_n 1, 1) := by decide +kernel
theorem dX7_addError_1 : decode cX7_addError 1 = .ok (.iconst 0, 1) := by decide +kernel
theorem dX7_addError_2 : decode cX7_addError 2 = .ok (.bipush 32, 2) := by decide +kernel
theorem dX7_addError_4 : decode cX7_addError 4 = .ok (.invokestatic 44, 3) := by decide +kernel
theorem dX7_addError_7 : decode cX7_addError 7 = .ok (.ifCond .eq 17, 3) := by decide +kernel
theorem dX7_addError_10 : decode cX7_addError 10 = .ok (.iload_n 2, 1) := by decide +kernel
theorem dX7_addError_11 : decode cX7_addError 11 = .ok (.ifCond .lt 13, 3) := by decide +kernel
theorem dX7_addError_14 : decode cX7_addError 14 = .ok (.iload_n 3, 1) := by decide +kernel
theorem dX7_addError_15 : decode cX7_addError 15 = .ok (.iconst 1, 1) := by decide +kernel
theorem dX7_addError_16 : decode cX7_addError 16 = .ok (.bipush 32, 2) := by decide +kernel
theorem dX7_addError_18 : decode cX7_addError 18 = .ok (.invokestatic 44, 3) := by decide +kernel
theorem dX7_addError_21 : decode cX7_addError 21 = .ok (.ifCond .ne 6, 3) := by decide +kernel
theorem dX7_addError_24 : decode cX7_addError 24 = .ok (.bipush (-2), 2) := by decide +kernel
theorem dX7_addError_26 : decode cX7_addError 26 = .ok (.ireturn, 1) := by decide +kernel
theorem dX7_addError_27 : decode cX7_addError 27 = .ok (.aload_n 0, 1) := by decide +kernel
theorem dX7_addError_28 : decode cX7_addError 28 = .ok (.getfield 7, 3) := by decide +kernel
theorem dX7_addError_31 : decode cX7_addError 31 = .ok (.iconst 5, 1) := by decide +kernel
theorem dX7_addError_32 : decode cX7_addError 32 = .ok (.iaload, 1) := by decide +kernel
theorem dX7_addError_33 : decode cX7_addError 33 = .ok (.bipush 40, 2) := by decide +kernel
theorem dX7_addError_35 : decode cX7_addError 35 = .ok (.if_icmp .eq 17, 3) := by decide +kernel
theorem dX7_addError_38 : decode cX7_addError 38 = .ok (.aload_n 0, 1) := by decide +kernel
theorem dX7_addError_39 : decode cX7_addError 39 = .ok (.invokevirtual 117, 3) := by decide +kernel
theorem dX7_addError_42 : decode cX7_addError 42 = .ok (.iload_n 1, 1) := by decide +kernel
theorem dX7_addError_43 : decode cX7_addError 43 = .ok (.iadd, 1) := by decide +kernel
theorem dX7_addError_44 : decode cX7_addError 44 = .ok (.iload_n 3, 1) := by decide +kernel
theorem dX7_addError_45 : decode cX7_addError 45 = .ok (.iadd, 1) := by decide +kernel
theorem dX7_addError_46 : decode cX7_addError 46 = .ok (.sipush 600, 3) := by decide +kernel
theorem dX7_addError_49 : decode cX7_addError 49 = .ok (.if_icmp .le 8, 3) := by decide +kernel
theorem dX7_addError_52 : decode cX7_addError 52 = .ok (.bipush (-3), 2) := by decide +kernel
theorem dX7_addError_54 : decode cX7_addError 54 = .ok (.goto 4, 3) := by decide +kernel
theorem dX7_addError_57 : decode cX7_addError 57 = .ok (.iconst 0, 1) := by decide +kernel
theorem dX7_addError_58 : decode cX7_addError 58 = .ok (.ireturn, 1) := by decide +kernel
theorem dX7_doAdd_0 : decode cX7_doAdd 0 = .ok (.aload_n 0, 1) := by decide +kernel
theorem dX7_doAdd_1 : decode cX7_doAdd 1 = .ok (.getfield 7, 3) := by decide +kernel
theorem dX7_doAdd_4 : decode cX7_doAdd 4 = .ok (.iconst 5, 1) := by decide +kernel
theorem dX7_doAdd_5 : decode cX7_doAdd 5 = .ok (.iaload, 1) := by decide +kernel
theorem dX7_doAdd_6 : decode cX7_doAdd 6 = .ok (.istore 6, 2) := by decide +kernel
theorem dX7_doAdd_8 : decode cX7_doAdd 8 = .ok (.aload_n 0, 1) := by decide +kernel
theorem dX7_doAdd_9 : decode cX7_doAdd 9 = .ok (.iload 6, 2) := by decide +kernel
theorem dX7_doAdd_11 : decode cX7_doAdd 11 = .ok (.iconst 0, 1) := by decide +kernel
theorem dX7_doAdd_12 : decode cX7_doAdd 12 = .ok (.aload_n 0, 1) := by decide +kernel
theorem dX7_doAdd_13 : decode cX7_doAdd 13 = .ok (.invokevirtual 117, 3) := by decide +kernel
theorem dX7_doAdd_16 : decode cX7_doAdd 16 = .ok (.iload_n 1, 1) := by decide +kernel
theorem dX7_doAdd_17 : decode cX7_doAdd 17 = .ok (.iadd, 1) := by decide +kernel
theorem dX7_doAdd_18 : decode cX7_doAdd 18 = .ok (.invokevirtual 120, 3) := by decide +kernel
theorem dX7_doAdd_21 : decode cX7_doAdd 21 = .ok (.aload_n 0, 1) := by decide +kernel
theorem dX7_doAdd_22 : decode cX7_doAdd 22 = .ok (.iload 6, 2) := by decide +kernel
theorem dX7_doAdd_24 : decode cX7_doAdd 24 = .ok (.iconst 1, 1) := by decide +kernel
theorem dX7_doAdd_25 : decode cX7_doAdd 25 = .ok (.iload 4, 2) := by decide +kernel
theorem dX7_doAdd_27 : decode cX7_doAdd 27 = .ok (.invokevirtual 120, 3) := by decide +kernel
theorem dX7_doAdd_30 : decode cX7_doAdd 30 = .ok (.aload_n 0, 1) := by decide +kernel
theorem dX7_doAdd_31 : decode cX7_doAdd 31 = .ok (.iload 6, 2) := by decide +kernel
theorem dX7_doAdd_33 : decode cX7_doAdd 33 = .ok (.iconst 2, 1) := by decide +kernel
theorem dX7_doAdd_34 : decode cX7_doAdd 34 = .ok (.iload_n 2, 1) := by decide +kernel
theorem dX7_doAdd_35 : decode cX7_doAdd 35 = .ok (.invokevirtual 120, 3) := by decide +kernel
theorem dX7_doAdd_38 : decode cX7_doAdd 38 = .ok (.aload_n 0, 1) := by decide +kernel
theorem dX7_doAdd_39 : decode cX7_doAdd 39 = .ok (.iload 6, 2) := by decide +kernel
theorem dX7_doAdd_41 : decode cX7_doAdd 41 = .ok (.iconst 3, 1) := by decide +kernel
theorem dX7_doAdd_42 : decode cX7_doAdd 42 = .ok (.iload_n 3, 1) := by decide +kernel
theorem dX7_doAdd_43 : decode cX7_doAdd 43 = .ok (.invokevirtual 120, 3) := by decide +kernel
theorem dX7_doAdd_46 : decode cX7_doAdd 46 = .ok (.aload_n 0, 1) := by decide +kernel
theorem dX7_doAdd_47 : decode cX7_doAdd 47 = .ok (.iload 6, 2) := by decide +kernel
theorem dX7_doAdd_49 : decode cX7_doAdd 49 = .ok (.iconst 4, 1) := by decide +kernel
theorem dX7_doAdd_50 : decode cX7_doAdd 50 = .ok (.iload 6, 2) := by decide +kernel
theorem dX7_doAdd_52 : decode cX7_doAdd 52 = .ok (.ifCond .ne 7, 3) := by decide +kernel
theorem dX7_doAdd_55 : decode cX7_doAdd 55 = .ok (.iconst 1, 1) := by decide +kernel
theorem dX7_doAdd_56 : decode cX7_doAdd 56 = .ok (.goto 5, 3) := by decide +kernel
theorem dX7_doAdd_59 : decode cX7_doAdd 59 = .ok (.iload 5, 2) := by decide +kernel
theorem dX7_doAdd_61 : decode cX7_doAdd 61 = .ok (.invokevirtual 120, 3) := by decide +kernel
theorem dX7_doAdd_64 : decode cX7_doAdd 64 = .ok (.aload_n 0, 1) := by decide +kernel
theorem dX7_doAdd_65 : decode cX7_doAdd 65 = .ok (.getfield 7, 3) := by decide +kernel
theorem dX7_doAdd_68 : decode cX7_doAdd 68 = .ok (.iconst 5, 1) := by decide +kernel
theorem dX7_doAdd_69 : decode cX7_doAdd 69 = .ok (.dup2, 1) := by decide +kernel
theorem dX7_doAdd_70 : decode cX7_doAdd 70 = .ok (.iaload, 1) := by decide +kernel
theorem dX7_doAdd_71 : decode cX7_doAdd 71 = .ok (.iconst 1, 1) := by decide +kernel
theorem dX7_doAdd_72 : decode cX7_doAdd 72 = .ok (.iadd, 1) := by decide +kernel
theorem dX7_doAdd_73 : decode cX7_doAdd 73 = .ok (.iastore, 1) := by decide +kernel
theorem dX7_doAdd_74 : decode cX7_doAdd 74 = .ok (.aload_n 0, 1) := by decide +kernel
theorem dX7_doAdd_75 : decode cX7_doAdd 75 = .ok (.iload 6, 2) := by decide +kernel
theorem dX7_doAdd_77 : decode cX7_doAdd 77 = .ok (.iconst 0, 1) := by decide +kernel
theorem dX7_doAdd_78 : decode cX7_doAdd 78 = .ok (.invokevirtual 56, 3) := by decide +kernel
theorem dX7_doAdd_81 : decode cX7_doAdd 81 = .ok (.ireturn, 1) := by decide +kernel
theorem dX7_add_0 : decode cX7_add 0 = .ok (.aload_n 0, 1) := by decide +kernel
theorem dX7_add_1 : decode cX7_add 1 = .ok (.iload_n 1, 1) := by decide +kernel
theorem dX7_add_2 : decode cX7_add 2 = .ok (.iload_n 2, 1) := by decide +kernel
theorem dX7_add_3 : decode cX7_add 3 = .ok (.invokestatic 71, 3) := by decide +kernel
theorem dX7_add_6 : decode cX7_add 6 = .ok (.ifCond .eq 14, 3) := by decide +kernel
theorem dX7_add_9 : decode cX7_add 9 = .ok (.iload_n 3, 1) := by decide +kernel
theorem dX7_add_10 : decode cX7_add 10 = .ok (.invokestatic 71, 3) := by decide +kernel
theorem dX7_add_13 : decode cX7_add 13 = .ok (.ifCond .eq 7, 3) := by decide +kernel
theorem dX7_add_16 : decode cX7_add 16 = .ok (.iconst 0, 1) := by decide +kernel
theorem dX7_add_17 : decode cX7_add 17 = .ok (.goto 4, 3) := by decide +kernel
theorem dX7_add_20 : decode cX7_add 20 = .ok (.iconst (-1), 1) := by decide +kernel
theorem dX7_add_21 : decode cX7_add 21 = .ok (.iload 4, 2) := by decide +kernel
theorem dX7_add_23 : decode cX7_add 23 = .ok (.invokevirtual 124, 3) := by decide +kernel
theorem dX7_add_26 : decode cX7_add 26 = .ok (.istore 6, 2) := by decide +kernel
theorem dX7_add_28 : decode cX7_add 28 = .ok (.iload 6, 2) := by decide +kernel
theorem dX7_add_30 : decode cX7_add 30 = .ok (.ifCond .ge 6, 3) := by decide +kernel
theorem dX7_add_33 : decode cX7_add 33 = .ok (.iload 6, 2) := by decide +kernel
theorem dX7_add_35 : decode cX7_add 35 = .ok (.ireturn, 1) := by decide +kernel
theorem dX7_add_36 : decode cX7_add 36 = .ok (.aload_n 0, 1) := by decide +kernel
theorem dX7_add_37 : decode cX7_add 37 = .ok (.invokevirtual 128, 3) := by decide +kernel
theorem dX7_add_40 : decode cX7_add 40 = .ok (.aload_n 0, 1) := by decide +kernel
theorem dX7_add_41 : decode cX7_add 41 = .ok (.iload_n 1, 1) := by decide +kernel
theorem dX7_add_42 : decode cX7_add 42 = .ok (.iload_n 2, 1) := by decide +kernel
theorem dX7_add_43 : decode cX7_add 43 = .ok (.iload_n 3, 1) := by decide +kernel
theorem dX7_add_44 : decode cX7_add 44 = .ok (.iload 4, 2) := by decide +kernel
theorem dX7_add_46 : decode cX7_add 46 = .ok (.iload 5, 2) := by decide +kernel
theorem dX7_add_48 : decode cX7_add 48 = .ok (.ifCond .eq 7, 3) := by decide +kernel
theorem dX7_add_51 : decode cX7_add 51 = .ok (.iconst 1, 1) := by decide +kernel
theorem dX7_add_52 : decode cX7_add 52 = .ok (.goto 4, 3) := by decide +kernel
theorem dX7_add_55 : decode cX7_add 55 = .ok (.iconst 0, 1) := by decide +kernel
theorem dX7_add_56 : decode cX7_add 56 = .ok (.invokevirtual 131, 3) := by decide +kernel
theorem dX7_add_59 : decode cX7_add 59 = .ok (.ireturn, 1) := by decide +kernel
theorem dX7_drop_0 : decode cX7_drop 0 = .ok (.aload_n 0, 1) := by decide +kernel
theorem dX7_drop_1 : decode cX7_drop 1 = .ok (.getfield 7, 3) := by decide +kernel
theorem dX7_drop_4 : decode cX7_drop 4 = .ok (.iconst 5, 1) := by decide +kernel
theorem dX7_drop_5 : decode cX7_drop 5 = .ok (.iaload, 1) := by decide +kernel
theorem dX7_drop_6 : decode cX7_drop 6 = .ok (.ifCond .ne 6, 3) := by decide +kernel
theorem dX7_drop_9 : decode cX7_drop 9 = .ok (.bipush (-5), 2) := by decide +kernel
theorem dX7_drop_11 : decode cX7_drop 11 = .ok (.ireturn, 1) := by decide +kernel
theorem dX7_drop_12 : decode cX7_drop 12 = .ok (.aload_n 0, 1) := by decide +kernel
theorem dX7_drop_13 : decode cX7_drop 13 = .ok (.invokevirtual 128, 3) := by decide +kernel
theorem dX7_drop_16 : decode cX7_drop 16 = .ok (.aload_n 0, 1) := by decide +kernel
theorem dX7_drop_17 : decode cX7_drop 17 = .ok (.getfield 7, 3) := by decide +kernel
theorem dX7_drop_20 : decode cX7_drop 20 = .ok (.iconst 5, 1) := by decide +kernel
theorem dX7_drop_21 : decode cX7_drop 21 = .ok (.dup2, 1) := by decide +kernel
theorem dX7_drop_22 : decode cX7_drop 22 = .ok (.iaload, 1) := by decide +kernel
theorem dX7_drop_23 : decode cX7_drop 23 = .ok (.iconst 1, 1) := by decide +kernel
theorem dX7_drop_24 : decode cX7_drop 24 = .ok (.isub, 1) := by decide +kernel
theorem dX7_drop_25 : decode cX7_drop 25 = .ok (.iastore, 1) := by decide +kernel
theorem dX7_drop_26 : decode cX7_drop 26 = .ok (.aload_n 0, 1) := by decide +kernel
theorem dX7_drop_27 : decode cX7_drop 27 = .ok (.getfield 7, 3) := by decide +kernel
theorem dX7_drop_30 : decode cX7_drop 30 = .ok (.iconst 5, 1) := by decide +kernel
theorem dX7_drop_31 : decode cX7_drop 31 = .ok (.iaload, 1) := by decide +kernel
theorem dX7_drop_32 : decode cX7_drop 32 = .ok (.ireturn, 1) := by decide +kernel
theorem dX7_settingError_0 : decode cX7_settingError 0 = .ok (.iload_n 0, 1) := by decide +kernel
theorem dX7_settingError_1 : decode cX7_settingError 1 = .ok (.tableswitch 119 0 4 #[35, 52, 69, 86, 102], 35) := by decide +kernel
theorem dX7_settingError_36 : decode cX7_settingError 36 = .ok (.iload_n 1, 1) := by decide +kernel
theorem dX7_settingError_37 : decode cX7_settingError 37 = .ok (.iconst 2, 1) := by decide +kernel
theorem dX7_settingError_38 : decode cX7_settingError 38 = .ok (.bipush 64, 2) := by decide +kernel
theorem dX7_settingError_40 : decode cX7_settingError 40 = .ok (.invokestatic 44, 3) := by decide +kernel
theorem dX7_settingError_43 : decode cX7_settingError 43 = .ok (.ifCond .eq 7, 3) := by decide +kernel
theorem dX7_settingError_46 : decode cX7_settingError 46 = .ok (.iconst 0, 1) := by decide +kernel
theorem dX7_settingError_47 : decode cX7_settingError 47 = .ok (.goto 5, 3) := by decide +kernel
theorem dX7_settingError_50 : decode cX7_settingError 50 = .ok (.bipush (-2), 2) := by decide +kernel
theorem dX7_settingError_52 : decode cX7_settingError 52 = .ok (.ireturn, 1) := by decide +kernel
theorem dX7_settingError_53 : decode cX7_settingError 53 = .ok (.iload_n 1, 1) := by decide +kernel
theorem dX7_settingError_54 : decode cX7_settingError 54 = .ok (.iconst 0, 1) := by decide +kernel
theorem dX7_settingError_55 : decode cX7_settingError 55 = .ok (.bipush 6, 2) := by decide +kernel
theorem dX7_settingError_57 : decode cX7_settingError 57 = .ok (.invokestatic 44, 3) := by decide +kernel
theorem dX7_settingError_60 : decode cX7_settingError 60 = .ok (.ifCond .eq 7, 3) := by decide +kernel
theorem dX7_settingError_63 : decode cX7_settingError 63 = .ok (.iconst 0, 1) := by decide +kernel
theorem dX7_settingError_64 : decode cX7_settingError 64 = .ok (.goto 5, 3) := by decide +kernel
theorem dX7_settingError_67 : decode cX7_settingError 67 = .ok (.bipush (-2), 2) := by decide +kernel
theorem dX7_settingError_69 : decode cX7_settingError 69 = .ok (.ireturn, 1) := by decide +kernel
theorem dX7_settingError_70 : decode cX7_settingError 70 = .ok (.iload_n 1, 1) := by decide +kernel
theorem dX7_settingError_71 : decode cX7_settingError 71 = .ok (.iconst 0, 1) := by decide +kernel
theorem dX7_settingError_72 : decode cX7_settingError 72 = .ok (.bipush 8, 2) := by decide +kernel
theorem dX7_settingError_74 : decode cX7_settingError 74 = .ok (.invokestatic 44, 3) := by decide +kernel
theorem dX7_settingError_77 : decode cX7_settingError 77 = .ok (.ifCond .eq 7, 3) := by decide +kernel
theorem dX7_settingError_80 : decode cX7_settingError 80 = .ok (.iconst 0, 1) := by decide +kernel
theorem dX7_settingError_81 : decode cX7_settingError 81 = .ok (.goto 5, 3) := by decide +kernel
theorem dX7_settingError_84 : decode cX7_settingError 84 = .ok (.bipush (-2), 2) := by decide +kernel
theorem dX7_settingError_86 : decode cX7_settingError 86 = .ok (.ireturn, 1) := by decide +kernel
theorem dX7_settingError_87 : decode cX7_settingError 87 = .ok (.iload_n 1, 1) := by decide +kernel
theorem dX7_settingError_88 : decode cX7_settingError 88 = .ok (.iconst 0, 1) := by decide +kernel
theorem dX7_settingError_89 : decode cX7_settingError 89 = .ok (.iconst 1, 1) := by decide +kernel
theorem dX7_settingError_90 : decode cX7_settingError 90 = .ok (.invokestatic 44, 3) := by decide +kernel
theorem dX7_settingError_93 : decode cX7_settingError 93 = .ok (.ifCond .eq 7, 3) := by decide +kernel
theorem dX7_settingError_96 : decode cX7_settingError 96 = .ok (.iconst 0, 1) := by decide +kernel
theorem dX7_settingError_97 : decode cX7_settingError 97 = .ok (.goto 5, 3) := by decide +kernel
theorem dX7_settingError_100 : decode cX7_settingError 100 = .ok (.bipush (-2), 2) := by decide +kernel
theorem dX7_settingError_102 : decode cX7_settingError 102 = .ok (.ireturn, 1) := by decide +kernel
theorem dX7_settingError_103 : decode cX7_settingError 103 = .ok (.iload_n 1, 1) := by decide +kernel
theorem dX7_settingError_104 : decode cX7_settingError 104 = .ok (.iconst 1, 1) := by decide +kernel
theorem dX7_settingError_105 : decode cX7_settingError 105 = .ok (.bipush 100, 2) := by decide +kernel
theorem dX7_settingError_107 : decode cX7_settingError 107 = .ok (.invokestatic 44, 3) := by decide +kernel
theorem dX7_settingError_110 : decode cX7_settingError 110 = .ok (.ifCond .eq 7, 3) := by decide +kernel
theorem dX7_settingError_113 : decode cX7_settingError 113 = .ok (.iconst 0, 1) := by decide +kernel
theorem dX7_settingError_114 : decode cX7_settingError 114 = .ok (.goto 5, 3) := by decide +kernel
theorem dX7_settingError_117 : decode cX7_settingError 117 = .ok (.bipush (-2), 2) := by decide +kernel
theorem dX7_settingError_119 : decode cX7_settingError 119 = .ok (.ireturn, 1) := by decide +kernel
theorem dX7_settingError_120 : decode cX7_settingError 120 = .ok (.iconst (-1), 1) := by decide +kernel
theorem dX7_settingError_121 : decode cX7_settingError 121 = .ok (.ireturn, 1) := by decide +kernel
theorem dX7_set_0 : decode cX7_set 0 = .ok (.iload_n 1, 1) := by decide +kernel
theorem dX7_set_1 : decode cX7_set 1 = .ok (.iload_n 2, 1) := by decide +kernel
theorem dX7_set_2 : decode cX7_set 2 = .ok (.invokestatic 135, 3) := by decide +kernel
theorem dX7_set_5 : decode cX7_set 5 = .ok (.istore_n 3, 1) := by decide +kernel
theorem dX7_set_6 : decode cX7_set 6 = .ok (.iload_n 3, 1) := by decide +kernel
theorem dX7_set_7 : decode cX7_set 7 = .ok (.ifCond .lt 13, 3) := by decide +kernel
theorem dX7_set_10 : decode cX7_set 10 = .ok (.aload_n 0, 1) := by decide +kernel
theorem dX7_set_11 : decode cX7_set 11 = .ok (.getfield 7, 3) := by decide +kernel
theorem dX7_set_14 : decode cX7_set 14 = .ok (.iload_n 1, 1) := by decide +kernel
theorem dX7_set_15 : decode cX7_set 15 = .ok (.iaload, 1) := by decide +kernel
theorem dX7_set_16 : decode cX7_set 16 = .ok (.iload_n 2, 1) := by decide +kernel
theorem dX7_set_17 : decode cX7_set 17 = .ok (.if_icmp .ne 14, 3) := by decide +kernel
theorem dX7_set_20 : decode cX7_set 20 = .ok (.iload_n 3, 1) := by decide +kernel
theorem dX7_set_21 : decode cX7_set 21 = .ok (.ifCond .ge 7, 3) := by decide +kernel
theorem dX7_set_24 : decode cX7_set 24 = .ok (.iload_n 3, 1) := by decide +kernel
theorem dX7_set_25 : decode cX7_set 25 = .ok (.goto 5, 3) := by decide +kernel
theorem dX7_set_28 : decode cX7_set 28 = .ok (.bipush (-5), 2) := by decide +kernel
theorem dX7_set_30 : decode cX7_set 30 = .ok (.ireturn, 1) := by decide +kernel
theorem dX7_set_31 : decode cX7_set 31 = .ok (.aload_n 0, 1) := by decide +kernel
theorem dX7_set_32 : decode cX7_set 32 = .ok (.invokevirtual 128, 3) := by decide +kernel
theorem dX7_set_35 : decode cX7_set 35 = .ok (.aload_n 0, 1) := by decide +kernel
theorem dX7_set_36 : decode cX7_set 36 = .ok (.getfield 7, 3) := by decide +kernel
theorem dX7_set_39 : decode cX7_set 39 = .ok (.iload_n 1, 1) := by decide +kernel
theorem dX7_set_40 : decode cX7_set 40 = .ok (.iaload, 1) := by decide +kernel
theorem dX7_set_41 : decode cX7_set 41 = .ok (.istore 4, 2) := by decide +kernel
theorem dX7_set_43 : decode cX7_set 43 = .ok (.aload_n 0, 1) := by decide +kernel
theorem dX7_set_44 : decode cX7_set 44 = .ok (.getfield 7, 3) := by decide +kernel
theorem dX7_set_47 : decode cX7_set 47 = .ok (.iload_n 1, 1) := by decide +kernel
theorem dX7_set_48 : decode cX7_set 48 = .ok (.iload_n 2, 1) := by decide +kernel
theorem dX7_set_49 : decode cX7_set 49 = .ok (.iastore, 1) := by decide +kernel
theorem dX7_set_50 : decode cX7_set 50 = .ok (.iload 4, 2) := by decide +kernel
theorem dX7_set_52 : decode cX7_set 52 = .ok (.ireturn, 1) := by decide +kernel
theorem dX7_sing_0 : decode cX7_sing 0 = .ok (.iload_n 1, 1) := by decide +kernel
theorem dX7_sing_1 : decode cX7_sing 1 = .ok (.invokestatic 67, 3) := by decide +kernel
theorem dX7_sing_4 : decode cX7_sing 4 = .ok (.ifCond .eq 29, 3) := by decide +kernel
theorem dX7_sing_7 : decode cX7_sing 7 = .ok (.iload_n 2, 1) := by decide +kernel
theorem dX7_sing_8 : decode cX7_sing 8 = .ok (.iconst 1, 1) := by decide +kernel
theorem dX7_sing_9 : decode cX7_sing 9 = .ok (.bipush 64, 2) := by decide +kernel
theorem dX7_sing_11 : decode cX7_sing 11 = .ok (.invokestatic 44, 3) := by decide +kernel
theorem dX7_sing_14 : decode cX7_sing 14 = .ok (.ifCond .eq 19, 3) := by decide +kernel
theorem dX7_sing_17 : decode cX7_sing 17 = .ok (.iload_n 1, 1) := by decide +kernel
theorem dX7_sing_18 : decode cX7_sing 18 = .ok (.iload_n 2, 1) := by decide +kernel
theorem dX7_sing_19 : decode cX7_sing 19 = .ok (.iadd, 1) := by decide +kernel
theorem dX7_sing_20 : decode cX7_sing 20 = .ok (.sipush 600, 3) := by decide +kernel
theorem dX7_sing_23 : decode cX7_sing 23 = .ok (.if_icmp .gt 10, 3) := by decide +kernel
theorem dX7_sing_26 : decode cX7_sing 26 = .ok (.iload_n 3, 1) := by decide +kernel
theorem dX7_sing_27 : decode cX7_sing 27 = .ok (.invokestatic 71, 3) := by decide +kernel
theorem dX7_sing_30 : decode cX7_sing 30 = .ok (.ifCond .ne 6, 3) := by decide +kernel
theorem dX7_sing_33 : decode cX7_sing 33 = .ok (.bipush (-2), 2) := by decide +kernel
theorem dX7_sing_35 : decode cX7_sing 35 = .ok (.ireturn, 1) := by decide +kernel
theorem dX7_sing_36 : decode cX7_sing 36 = .ok (.aload_n 0, 1) := by decide +kernel
theorem dX7_sing_37 : decode cX7_sing 37 = .ok (.invokevirtual 128, 3) := by decide +kernel
theorem dX7_sing_40 : decode cX7_sing 40 = .ok (.iload_n 1, 1) := by decide +kernel
theorem dX7_sing_41 : decode cX7_sing 41 = .ok (.istore 4, 2) := by decide +kernel
theorem dX7_sing_43 : decode cX7_sing 43 = .ok (.iload 4, 2) := by decide +kernel
theorem dX7_sing_45 : decode cX7_sing 45 = .ok (.iload_n 1, 1) := by decide +kernel
theorem dX7_sing_46 : decode cX7_sing 46 = .ok (.iload_n 2, 1) := by decide +kernel
theorem dX7_sing_47 : decode cX7_sing 47 = .ok (.iadd, 1) := by decide +kernel
theorem dX7_sing_48 : decode cX7_sing 48 = .ok (.if_icmp .ge 23, 3) := by decide +kernel
theorem dX7_sing_51 : decode cX7_sing 51 = .ok (.aload_n 0, 1) := by decide +kernel
theorem dX7_sing_52 : decode cX7_sing 52 = .ok (.getfield 7, 3) := by decide +kernel
theorem dX7_sing_55 : decode cX7_sing 55 = .ok (.sipush 206, 3) := by decide +kernel
theorem dX7_sing_58 : decode cX7_sing 58 = .ok (.iload 4, 2) := by decide +kernel
theorem dX7_sing_60 : decode cX7_sing 60 = .ok (.iadd, 1) := by decide +kernel
theorem dX7_sing_61 : decode cX7_sing 61 = .ok (.iload_n 3, 1) := by decide +kernel
theorem dX7_sing_62 : decode cX7_sing 62 = .ok (.iconst 1, 1) := by decide +kernel
theorem dX7_sing_63 : decode cX7_sing 63 = .ok (.iadd, 1) := by decide +kernel
theorem dX7_sing_64 : decode cX7_sing 64 = .ok (.iastore, 1) := by decide +kernel
theorem dX7_sing_65 : decode cX7_sing 65 = .ok (.iinc 4 1, 3) := by decide +kernel
theorem dX7_sing_68 : decode cX7_sing 68 = .ok (.goto (-25), 3) := by decide +kernel
theorem dX7_sing_71 : decode cX7_sing 71 = .ok (.aload_n 0, 1) := by decide +kernel
theorem dX7_sing_72 : decode cX7_sing 72 = .ok (.invokevirtual 138, 3) := by decide +kernel
theorem dX7_sing_75 : decode cX7_sing 75 = .ok (.aload_n 0, 1) := by decide +kernel
theorem dX7_sing_76 : decode cX7_sing 76 = .ok (.invokevirtual 141, 3) := by decide +kernel
theorem dX7_sing_79 : decode cX7_sing 79 = .ok (.ireturn, 1) := by decide +kernel
theorem dX7_silence_0 : decode cX7_silence 0 = .ok (.iload_n 1, 1) := by decide +kernel
theorem dX7_silence_1 : decode cX7_silence 1 = .ok (.invokestatic 67, 3) := by decide +kernel
theorem dX7_silence_4 : decode cX7_silence 4 = .ok (.ifCond .eq 23, 3) := by decide +kernel
theorem dX7_silence_7 : decode cX7_silence 7 = .ok (.iload_n 2, 1) := by decide +kernel
theorem dX7_silence_8 : decode cX7_silence 8 = .ok (.iconst 1, 1) := by decide +kernel
theorem dX7_silence_9 : decode cX7_silence 9 = .ok (.sipush 600, 3) := by decide +kernel
theorem dX7_silence_12 : decode cX7_silence 12 = .ok (.invokestatic 44, 3) := by decide +kernel
theorem dX7_silence_15 : decode cX7_silence 15 = .ok (.ifCond .eq 12, 3) := by decide +kernel
theorem dX7_silence_18 : decode cX7_silence 18 = .ok (.iload_n 1, 1) := by decide +kernel
theorem dX7_silence_19 : decode cX7_silence 19 = .ok (.iload_n 2, 1) := by decide +kernel
theorem dX7_silence_20 : decode cX7_silence 20 = .ok (.iadd, 1) := by decide +kernel
theorem dX7_silence_21 : decode cX7_silence 21 = .ok (.sipush 600, 3) := by decide +kernel
theorem dX7_silence_24 : decode cX7_silence 24 = .ok (.if_icmp .le 6, 3) := by decide +kernel
theorem dX7_silence_27 : decode cX7_silence 27 = .ok (.bipush (-2), 2) := by decide +kernel
theorem dX7_silence_29 : decode cX7_silence 29 = .ok (.ireturn, 1) := by decide +kernel
theorem dX7_silence_30 : decode cX7_silence 30 = .ok (.aload_n 0, 1) := by decide +kernel
theorem dX7_silence_31 : decode cX7_silence 31 = .ok (.invokevirtual 128, 3) := by decide +kernel
theorem dX7_silence_34 : decode cX7_silence 34 = .ok (.iconst 0, 1) := by decide +kernel
theorem dX7_silence_35 : decode cX7_silence 35 = .ok (.istore_n 3, 1) := by decide +kernel
theorem dX7_silence_36 : decode cX7_silence 36 = .ok (.iload_n 1, 1) := by decide +kernel
theorem dX7_silence_37 : decode cX7_silence 37 = .ok (.istore 4, 2) := by decide +kernel
theorem dX7_silence_39 : decode cX7_silence 39 = .ok (.iload 4, 2) := by decide +kernel
theorem dX7_silence_41 : decode cX7_silence 41 = .ok (.iload_n 1, 1) := by decide +kernel
theorem dX7_silence_42 : decode cX7_silence 42 = .ok (.iload_n 2, 1) := by decide +kernel
theorem dX7_silence_43 : decode cX7_silence 43 = .ok (.iadd, 1) := by decide +kernel
theorem dX7_silence_44 : decode cX7_silence 44 = .ok (.if_icmp .ge 43, 3) := by decide +kernel
theorem dX7_silence_47 : decode cX7_silence 47 = .ok (.iload_n 3, 1) := by decide +kernel
theorem dX7_silence_48 : decode cX7_silence 48 = .ok (.aload_n 0, 1) := by decide +kernel
theorem dX7_silence_49 : decode cX7_silence 49 = .ok (.getfield 7, 3) := by decide +kernel
theorem dX7_silence_52 : decode cX7_silence 52 = .ok (.sipush 206, 3) := by decide +kernel
theorem dX7_silence_55 : decode cX7_silence 55 = .ok (.iload 4, 2) := by decide +kernel
theorem dX7_silence_57 : decode cX7_silence 57 = .ok (.iadd, 1) := by decide +kernel
theorem dX7_silence_58 : decode cX7_silence 58 = .ok (.iaload, 1) := by decide +kernel
theorem dX7_silence_59 : decode cX7_silence 59 = .ok (.ifCond .le 7, 3) := by decide +kernel
theorem dX7_silence_62 : decode cX7_silence 62 = .ok (.iconst 1, 1) := by decide +kernel
theorem dX7_silence_63 : decode cX7_silence 63 = .ok (.goto 4, 3) := by decide +kernel
theorem dX7_silence_66 : decode cX7_silence 66 = .ok (.iconst 0, 1) := by decide +kernel
theorem dX7_silence_67 : decode cX7_silence 67 = .ok (.iadd, 1) := by decide +kernel
theorem dX7_silence_68 : decode cX7_silence 68 = .ok (.istore_n 3, 1) := by decide +kernel
theorem dX7_silence_69 : decode cX7_silence 69 = .ok (.aload_n 0, 1) := by decide +kernel
theorem dX7_silence_70 : decode cX7_silence 70 = .ok (.getfield 7, 3) := by decide +kernel
theorem dX7_silence_73 : decode cX7_silence 73 = .ok (.sipush 206, 3) := by decide +kernel
theorem dX7_silence_76 : decode cX7_silence 76 = .ok (.iload 4, 2) := by decide +kernel
theorem dX7_silence_78 : decode cX7_silence 78 = .ok (.iadd, 1) := by decide +kernel
theorem dX7_silence_79 : decode cX7_silence 79 = .ok (.iconst 0, 1) := by decide +kernel
theorem dX7_silence_80 : decode cX7_silence 80 = .ok (.iastore, 1) := by decide +kernel
theorem dX7_silence_81 : decode cX7_silence 81 = .ok (.iinc 4 1, 3) := by decide +kernel
theorem dX7_silence_84 : decode cX7_silence 84 = .ok (.goto (-45), 3) := by decide +kernel
theorem dX7_silence_87 : decode cX7_silence 87 = .ok (.iload_n 3, 1) := by decide +kernel
theorem dX7_silence_88 : decode cX7_silence 88 = .ok (.ireturn, 1) := by decide +kernel
theorem dX7_singAlong_0 : decode cX7_singAlong 0 = .ok (.aload_n 0, 1) := by decide +kernel
theorem dX7_singAlong_1 : decode cX7_singAlong 1 = .ok (.iload_n 1, 1) := by decide +kernel
theorem dX7_singAlong_2 : decode cX7_singAlong 2 = .ok (.invokevirtual 144, 3) := by decide +kernel
theorem dX7_singAlong_5 : decode cX7_singAlong 5 = .ok (.ifCond .eq 11, 3) := by decide +kernel
theorem dX7_singAlong_8 : decode cX7_singAlong 8 = .ok (.aload_n 0, 1) := by decide +kernel
theorem dX7_singAlong_9 : decode cX7_singAlong 9 = .ok (.iload_n 2, 1) := by decide +kernel
theorem dX7_singAlong_10 : decode cX7_singAlong 10 = .ok (.invokevirtual 144, 3) := by decide +kernel
theorem dX7_singAlong_13 : decode cX7_singAlong 13 = .ok (.ifCond .ne 5, 3) := by decide +kernel
theorem dX7_singAlong_16 : decode cX7_singAlong 16 = .ok (.iconst (-1), 1) := by decide +kernel
theorem dX7_singAlong_17 : decode cX7_singAlong 17 = .ok (.ireturn, 1) := by decide +kernel
theorem dX7_singAlong_18 : decode cX7_singAlong 18 = .ok (.iload_n 2, 1) := by decide +kernel
theorem dX7_singAlong_19 : decode cX7_singAlong 19 = .ok (.iload_n 1, 1) := by decide +kernel
theorem dX7_singAlong_20 : decode cX7_singAlong 20 = .ok (.if_icmp .lt 14, 3) := by decide +kernel
theorem dX7_singAlong_23 : decode cX7_singAlong 23 = .ok (.iload_n 3, 1) := by decide +kernel
theorem dX7_singAlong_24 : decode cX7_singAlong 24 = .ok (.bipush (-60), 2) := by decide +kernel
theorem dX7_singAlong_26 : decode cX7_singAlong 26 = .ok (.bipush 60, 2) := by decide +kernel
theorem dX7_singAlong_28 : decode cX7_singAlong 28 = .ok (.invokestatic 44, 3) := by decide +kernel
theorem dX7_singAlong_31 : decode cX7_singAlong 31 = .ok (.ifCond .ne 6, 3) := by decide +kernel
theorem dX7_singAlong_34 : decode cX7_singAlong 34 = .ok (.bipush (-2), 2) := by decide +kernel
theorem dX7_singAlong_36 : decode cX7_singAlong 36 = .ok (.ireturn, 1) := by decide +kernel
theorem dX7_singAlong_37 : decode cX7_singAlong 37 = .ok (.aload_n 0, 1) := by decide +kernel
theorem dX7_singAlong_38 : decode cX7_singAlong 38 = .ok (.invokevirtual 128, 3) := by decide +kernel
theorem dX7_singAlong_41 : decode cX7_singAlong 41 = .ok (.iload_n 1, 1) := by decide +kernel
theorem dX7_singAlong_42 : decode cX7_singAlong 42 = .ok (.istore 4, 2) := by decide +kernel
theorem dX7_singAlong_44 : decode cX7_singAlong 44 = .ok (.iload 4, 2) := by decide +kernel
theorem dX7_singAlong_46 : decode cX7_singAlong 46 = .ok (.iload_n 2, 1) := by decide +kernel
theorem dX7_singAlong_47 : decode cX7_singAlong 47 = .ok (.if_icmp .gt 82, 3) := by decide +kernel
theorem dX7_singAlong_50 : decode cX7_singAlong 50 = .ok (.aload_n 0, 1) := by decide +kernel
theorem dX7_singAlong_51 : decode cX7_singAlong 51 = .ok (.iload 4, 2) := by decide +kernel
theorem dX7_singAlong_53 : decode cX7_singAlong 53 = .ok (.iconst 0, 1) := by decide +kernel
theorem dX7_singAlong_54 : decode cX7_singAlong 54 = .ok (.invokevirtual 56, 3) := by decide +kernel
theorem dX7_singAlong_57 : decode cX7_singAlong 57 = .ok (.istore 5, 2) := by decide +kernel
theorem dX7_singAlong_59 : decode cX7_singAlong 59 = .ok (.iload 5, 2) := by decide +kernel
theorem dX7_singAlong_61 : decode cX7_singAlong 61 = .ok (.aload_n 0, 1) := by decide +kernel
theorem dX7_singAlong_62 : decode cX7_singAlong 62 = .ok (.iload 4, 2) := by decide +kernel
theorem dX7_singAlong_64 : decode cX7_singAlong 64 = .ok (.invokevirtual 60, 3) := by decide +kernel
theorem dX7_singAlong_67 : decode cX7_singAlong 67 = .ok (.if_icmp .ge 56, 3) := by decide +kernel
theorem dX7_singAlong_70 : decode cX7_singAlong 70 = .ok (.aload_n 0, 1) := by decide +kernel
theorem dX7_singAlong_71 : decode cX7_singAlong 71 = .ok (.iload 4, 2) := by decide +kernel
theorem dX7_singAlong_73 : decode cX7_singAlong 73 = .ok (.iload 5, 2) := by decide +kernel
theorem dX7_singAlong_75 : decode cX7_singAlong 75 = .ok (.aload_n 0, 1) := by decide +kernel
theorem dX7_singAlong_76 : decode cX7_singAlong 76 = .ok (.iload 4, 2) := by decide +kernel
theorem dX7_singAlong_78 : decode cX7_singAlong 78 = .ok (.iconst 0, 1) := by decide +kernel
theorem dX7_singAlong_79 : decode cX7_singAlong 79 = .ok (.invokevirtual 56, 3) := by decide +kernel
theorem dX7_singAlong_82 : decode cX7_singAlong 82 = .ok (.isub, 1) := by decide +kernel
theorem dX7_singAlong_83 : decode cX7_singAlong 83 = .ok (.invokevirtual 74, 3) := by decide +kernel
theorem dX7_singAlong_86 : decode cX7_singAlong 86 = .ok (.iload_n 3, 1) := by decide +kernel
theorem dX7_singAlong_87 : decode cX7_singAlong 87 = .ok (.iadd, 1) := by decide +kernel
theorem dX7_singAlong_88 : decode cX7_singAlong 88 = .ok (.istore 6, 2) := by decide +kernel
theorem dX7_singAlong_90 : decode cX7_singAlong 90 = .ok (.aload_n 0, 1) := by decide +kernel
theorem dX7_singAlong_91 : decode cX7_singAlong 91 = .ok (.getfield 7, 3) := by decide +kernel
theorem dX7_singAlong_94 : decode cX7_singAlong 94 = .ok (.sipush 206, 3) := by decide +kernel
theorem dX7_singAlong_97 : decode cX7_singAlong 97 = .ok (.iload 5, 2) := by decide +kernel
theorem dX7_singAlong_99 : decode cX7_singAlong 99 = .ok (.iadd, 1) := by decide +kernel
theorem dX7_singAlong_100 : decode cX7_singAlong 100 = .ok (.iload 6, 2) := by decide +kernel
theorem dX7_singAlong_102 : decode cX7_singAlong 102 = .ok (.invokestatic 71, 3) := by decide +kernel
theorem dX7_singAlong_105 : decode cX7_singAlong 105 = .ok (.ifCond .eq 10, 3) := by decide +kernel
theorem dX7_singAlong_108 : decode cX7_singAlong 108 = .ok (.iload 6, 2) := by decide +kernel
theorem dX7_singAlong_110 : decode cX7_singAlong 110 = .ok (.iconst 1, 1) := by decide +kernel
theorem dX7_singAlong_111 : decode cX7_singAlong 111 = .ok (.iadd, 1) := by decide +kernel
theorem dX7_singAlong_112 : decode cX7_singAlong 112 = .ok (.goto 4, 3) := by decide +kernel
theorem dX7_singAlong_115 : decode cX7_singAlong 115 = .ok (.iconst 0, 1) := by decide +kernel
theorem dX7_singAlong_116 : decode cX7_singAlong 116 = .ok (.iastore, 1) := by decide +kernel
theorem dX7_singAlong_117 : decode cX7_singAlong 117 = .ok (.iinc 5 1, 3) := by decide +kernel
theorem dX7_singAlong_120 : decode cX7_singAlong 120 = .ok (.goto (-61), 3) := by decide +kernel
theorem dX7_singAlong_123 : decode cX7_singAlong 123 = .ok (.iinc 4 1, 3) := by decide +kernel
theorem dX7_singAlong_126 : decode cX7_singAlong 126 = .ok (.goto (-82), 3) := by decide +kernel
theorem dX7_singAlong_129 : decode cX7_singAlong 129 = .ok (.aload_n 0, 1) := by decide +kernel
theorem dX7_singAlong_130 : decode cX7_singAlong 130 = .ok (.invokevirtual 138, 3) := by decide +kernel
theorem dX7_singAlong_133 : decode cX7_singAlong 133 = .ok (.aload_n 0, 1) := by decide +kernel
theorem dX7_singAlong_134 : decode cX7_singAlong 134 = .ok (.invokevirtual 141, 3) := by decide +kernel
theorem dX7_singAlong_137 : decode cX7_singAlong 137 = .ok (.ireturn, 1) := by decide +kernel
theorem dX7_type_0 : decode cX7_type 0 = .ok (.aload_n 0, 1) := by decide +kernel
theorem dX7_type_1 : decode cX7_type 1 = .ok (.getfield 147, 3) := by decide +kernel
theorem dX7_type_4 : decode cX7_type 4 = .ok (.bipush 60, 2) := by decide +kernel
theorem dX7_type_6 : decode cX7_type 6 = .ok (.if_icmp .ne 6, 3) := by decide +kernel
theorem dX7_type_9 : decode cX7_type 9 = .ok (.bipush (-3), 2) := by decide +kernel
theorem dX7_type_11 : decode cX7_type 11 = .ok (.ireturn, 1) := by decide +kernel
theorem dX7_type_12 : decode cX7_type 12 = .ok (.aload_n 0, 1) := by decide +kernel
theorem dX7_type_13 : decode cX7_type 13 = .ok (.getfield 19, 3) := by decide +kernel
theorem dX7_type_16 : decode cX7_type 16 = .ok (.aload_n 0, 1) := by decide +kernel
theorem dX7_type_17 : decode cX7_type 17 = .ok (.getfield 147, 3) := by decide +kernel
theorem dX7_type_20 : decode cX7_type 20 = .ok (.iload_n 1, 1) := by decide +kernel
theorem dX7_type_21 : decode cX7_type 21 = .ok (.castore, 1) := by decide +kernel
theorem dX7_type_22 : decode cX7_type 22 = .ok (.aload_n 0, 1) := by decide +kernel
theorem dX7_type_23 : decode cX7_type 23 = .ok (.dup, 1) := by decide +kernel
theorem dX7_type_24 : decode cX7_type 24 = .ok (.getfield 147, 3) := by decide +kernel
theorem dX7_type_27 : decode cX7_type 27 = .ok (.iconst 1, 1) := by decide +kernel
theorem dX7_type_28 : decode cX7_type 28 = .ok (.iadd, 1) := by decide +kernel
theorem dX7_type_29 : decode cX7_type 29 = .ok (.putfield 147, 3) := by decide +kernel
theorem dX7_type_32 : decode cX7_type 32 = .ok (.aload_n 0, 1) := by decide +kernel
theorem dX7_type_33 : decode cX7_type 33 = .ok (.getfield 147, 3) := by decide +kernel
theorem dX7_type_36 : decode cX7_type 36 = .ok (.ireturn, 1) := by decide +kernel
theorem dX7_clearText_0 : decode cX7_clearText 0 = .ok (.aload_n 0, 1) := by decide +kernel
theorem dX7_clearText_1 : decode cX7_clearText 1 = .ok (.getfield 147, 3) := by decide +kernel
theorem dX7_clearText_4 : decode cX7_clearText 4 = .ok (.istore_n 1, 1) := by decide +kernel
theorem dX7_clearText_5 : decode cX7_clearText 5 = .ok (.aload_n 0, 1) := by decide +kernel
theorem dX7_clearText_6 : decode cX7_clearText 6 = .ok (.iconst 0, 1) := by decide +kernel
theorem dX7_clearText_7 : decode cX7_clearText 7 = .ok (.putfield 147, 3) := by decide +kernel
theorem dX7_clearText_10 : decode cX7_clearText 10 = .ok (.iload_n 1, 1) := by decide +kernel
theorem dX7_clearText_11 : decode cX7_clearText 11 = .ok (.ireturn, 1) := by decide +kernel
theorem dX7_isNext_0 : decode cX7_isNext 0 = .ok (.aload_n 0, 1) := by decide +kernel
theorem dX7_isNext_1 : decode cX7_isNext 1 = .ok (.getfield 150, 3) := by decide +kernel
theorem dX7_isNext_4 : decode cX7_isNext 4 = .ok (.aload_n 0, 1) := by decide +kernel
theorem dX7_isNext_5 : decode cX7_isNext 5 = .ok (.getfield 147, 3) := by decide +kernel
theorem dX7_isNext_8 : decode cX7_isNext 8 = .ok (.if_icmp .ge 24, 3) := by decide +kernel
theorem dX7_isNext_11 : decode cX7_isNext 11 = .ok (.aload_n 0, 1) := by decide +kernel
theorem dX7_isNext_12 : decode cX7_isNext 12 = .ok (.getfield 19, 3) := by decide +kernel
theorem dX7_isNext_15 : decode cX7_isNext 15 = .ok (.aload_n 0, 1) := by decide +kernel
theorem dX7_isNext_16 : decode cX7_isNext 16 = .ok (.getfield 150, 3) := by decide +kernel
theorem dX7_isNext_19 : decode cX7_isNext 19 = .ok (.caload, 1) := by decide +kernel
theorem dX7_isNext_20 : decode cX7_isNext 20 = .ok (.iload_n 1, 1) := by decide +kernel
theorem dX7_isNext_21 : decode cX7_isNext 21 = .ok (.iload_n 2, 1) := by decide +kernel
theorem dX7_isNext_22 : decode cX7_isNext 22 = .ok (.invokestatic 44, 3) := by decide +kernel
theorem dX7_isNext_25 : decode cX7_isNext 25 = .ok (.ifCond .eq 7, 3) := by decide +kernel
theorem dX7_isNext_28 : decode cX7_isNext 28 = .ok (.iconst 1, 1) := by decide +kernel
theorem dX7_isNext_29 : decode cX7_isNext 29 = .ok (.goto 4, 3) := by decide +kernel
theorem dX7_isNext_32 : decode cX7_isNext 32 = .ok (.iconst 0, 1) := by decide +kernel
theorem dX7_isNext_33 : decode cX7_isNext 33 = .ok (.ireturn, 1) := by decide +kernel
theorem dX7_takes_0 : decode cX7_takes 0 = .ok (.aload_n 0, 1) := by decide +kernel
theorem dX7_takes_1 : decode cX7_takes 1 = .ok (.iload_n 1, 1) := by decide +kernel
theorem dX7_takes_2 : decode cX7_takes 2 = .ok (.iload_n 1, 1) := by decide +kernel
theorem dX7_takes_3 : decode cX7_takes 3 = .ok (.invokevirtual 153, 3) := by decide +kernel
theorem dX7_takes_6 : decode cX7_takes 6 = .ok (.istore_n 2, 1) := by decide +kernel
theorem dX7_takes_7 : decode cX7_takes 7 = .ok (.aload_n 0, 1) := by decide +kernel
theorem dX7_takes_8 : decode cX7_takes 8 = .ok (.dup, 1) := by decide +kernel
theorem dX7_takes_9 : decode cX7_takes 9 = .ok (.getfield 150, 3) := by decide +kernel
theorem dX7_takes_12 : decode cX7_takes 12 = .ok (.iload_n 2, 1) := by decide +kernel
theorem dX7_takes_13 : decode cX7_takes 13 = .ok (.ifCond .eq 7, 3) := by decide +kernel
theorem dX7_takes_16 : decode cX7_takes 16 = .ok (.iconst 1, 1) := by decide +kernel
theorem dX7_takes_17 : decode cX7_takes 17 = .ok (.goto 4, 3) := by decide +kernel
theorem dX7_takes_20 : decode cX7_takes 20 = .ok (.iconst 0, 1) := by decide +kernel
theorem dX7_takes_21 : decode cX7_takes 21 = .ok (.iadd, 1) := by decide +kernel
theorem dX7_takes_22 : decode cX7_takes 22 = .ok (.putfield 150, 3) := by decide +kernel
theorem dX7_takes_25 : decode cX7_takes 25 = .ok (.iload_n 2, 1) := by decide +kernel
theorem dX7_takes_26 : decode cX7_takes 26 = .ok (.ireturn, 1) := by decide +kernel
theorem dX7_readNumber_0 : decode cX7_readNumber 0 = .ok (.aload_n 0, 1) := by decide +kernel
theorem dX7_readNumber_1 : decode cX7_readNumber 1 = .ok (.bipush 48, 2) := by decide +kernel
theorem dX7_readNumber_3 : decode cX7_readNumber 3 = .ok (.iload_n 2, 1) := by decide +kernel
theorem dX7_readNumber_4 : decode cX7_readNumber 4 = .ok (.iadd, 1) := by decide +kernel
theorem dX7_readNumber_5 : decode cX7_readNumber 5 = .ok (.bipush 57, 2) := by decide +kernel
theorem dX7_readNumber_7 : decode cX7_readNumber 7 = .ok (.invokevirtual 153, 3) := by decide +kernel
theorem dX7_readNumber_10 : decode cX7_readNumber 10 = .ok (.ifCond .ne 5, 3) := by decide +kernel
theorem dX7_readNumber_13 : decode cX7_readNumber 13 = .ok (.iconst 0, 1) := by decide +kernel
theorem dX7_readNumber_14 : decode cX7_readNumber 14 = .ok (.ireturn, 1) := by decide +kernel
theorem dX7_readNumber_15 : decode cX7_readNumber 15 = .ok (.aload_n 0, 1) := by decide +kernel
theorem dX7_readNumber_16 : decode cX7_readNumber 16 = .ok (.getfield 19, 3) := by decide +kernel
theorem dX7_readNumber_19 : decode cX7_readNumber 19 = .ok (.aload_n 0, 1) := by decide +kernel
theorem dX7_readNumber_20 : decode cX7_readNumber 20 = .ok (.getfield 150, 3) := by decide +kernel
theorem dX7_readNumber_23 : decode cX7_readNumber 23 = .ok (.caload, 1) := by decide +kernel
theorem dX7_readNumber_24 : decode cX7_readNumber 24 = .ok (.bipush 48, 2) := by decide +kernel
theorem dX7_readNumber_26 : decode cX7_readNumber 26 = .ok (.isub, 1) := by decide +kernel
theorem dX7_readNumber_27 : decode cX7_readNumber 27 = .ok (.istore 4, 2) := by decide +kernel
theorem dX7_readNumber_29 : decode cX7_readNumber 29 = .ok (.aload_n 0, 1) := by decide +kernel
theorem dX7_readNumber_30 : decode cX7_readNumber 30 = .ok (.dup, 1) := by decide +kernel
theorem dX7_readNumber_31 : decode cX7_readNumber 31 = .ok (.getfield 150, 3) := by decide +kernel
theorem dX7_readNumber_34 : decode cX7_readNumber 34 = .ok (.iconst 1, 1) := by decide +kernel
theorem dX7_readNumber_35 : decode cX7_readNumber 35 = .ok (.iadd, 1) := by decide +kernel
theorem dX7_readNumber_36 : decode cX7_readNumber 36 = .ok (.putfield 150, 3) := by decide +kernel
theorem dX7_readNumber_39 : decode cX7_readNumber 39 = .ok (.iload 4, 2) := by decide +kernel
theorem dX7_readNumber_41 : decode cX7_readNumber 41 = .ok (.ifCond .le 69, 3) := by decide +kernel
theorem dX7_readNumber_44 : decode cX7_readNumber 44 = .ok (.aload_n 0, 1) := by decide +kernel
theorem dX7_readNumber_45 : decode cX7_readNumber 45 = .ok (.bipush 48, 2) := by decide +kernel
theorem dX7_readNumber_47 : decode cX7_readNumber 47 = .ok (.bipush 57, 2) := by decide +kernel
theorem dX7_readNumber_49 : decode cX7_readNumber 49 = .ok (.invokevirtual 153, 3) := by decide +kernel
theorem dX7_readNumber_52 : decode cX7_readNumber 52 = .ok (.ifCond .eq 58, 3) := by decide +kernel
theorem dX7_readNumber_55 : decode cX7_readNumber 55 = .ok (.bipush 10, 2) := by decide +kernel
theorem dX7_readNumber_57 : decode cX7_readNumber 57 = .ok (.iload 4, 2) := by decide +kernel
theorem dX7_readNumber_59 : decode cX7_readNumber 59 = .ok (.imul, 1) := by decide +kernel
theorem dX7_readNumber_60 : decode cX7_readNumber 60 = .ok (.aload_n 0, 1) := by decide +kernel
theorem dX7_readNumber_61 : decode cX7_readNumber 61 = .ok (.getfield 19, 3) := by decide +kernel
theorem dX7_readNumber_64 : decode cX7_readNumber 64 = .ok (.aload_n 0, 1) := by decide +kernel
theorem dX7_readNumber_65 : decode cX7_readNumber 65 = .ok (.getfield 150, 3) := by decide +kernel
theorem dX7_readNumber_68 : decode cX7_readNumber 68 = .ok (.caload, 1) := by decide +kernel
theorem dX7_readNumber_69 : decode cX7_readNumber 69 = .ok (.iadd, 1) := by decide +kernel
theorem dX7_readNumber_70 : decode cX7_readNumber 70 = .ok (.bipush 48, 2) := by decide +kernel
theorem dX7_readNumber_72 : decode cX7_readNumber 72 = .ok (.isub, 1) := by decide +kernel
theorem dX7_readNumber_73 : decode cX7_readNumber 73 = .ok (.iload_n 3, 1) := by decide +kernel
theorem dX7_readNumber_74 : decode cX7_readNumber 74 = .ok (.if_icmp .gt 36, 3) := by decide +kernel
theorem dX7_readNumber_77 : decode cX7_readNumber 77 = .ok (.bipush 10, 2) := by decide +kernel
theorem dX7_readNumber_79 : decode cX7_readNumber 79 = .ok (.iload 4, 2) := by decide +kernel
theorem dX7_readNumber_81 : decode cX7_readNumber 81 = .ok (.imul, 1) := by decide +kernel
theorem dX7_readNumber_82 : decode cX7_readNumber 82 = .ok (.aload_n 0, 1) := by decide +kernel
theorem dX7_readNumber_83 : decode cX7_readNumber 83 = .ok (.getfield 19, 3) := by decide +kernel
theorem dX7_readNumber_86 : decode cX7_readNumber 86 = .ok (.aload_n 0, 1) := by decide +kernel
theorem dX7_readNumber_87 : decode cX7_readNumber 87 = .ok (.getfield 150, 3) := by decide +kernel
theorem dX7_readNumber_90 : decode cX7_readNumber 90 = .ok (.caload, 1) := by decide +kernel
theorem dX7_readNumber_91 : decode cX7_readNumber 91 = .ok (.iadd, 1) := by decide +kernel
theorem dX7_readNumber_92 : decode cX7_readNumber 92 = .ok (.bipush 48, 2) := by decide +kernel
theorem dX7_readNumber_94 : decode cX7_readNumber 94 = .ok (.isub, 1) := by decide +kernel
theorem dX7_readNumber_95 : decode cX7_readNumber 95 = .ok (.istore 4, 2) := by decide +kernel
theorem dX7_readNumber_97 : decode cX7_readNumber 97 = .ok (.aload_n 0, 1) := by decide +kernel
theorem dX7_readNumber_98 : decode cX7_readNumber 98 = .ok (.dup, 1) := by decide +kernel
theorem dX7_readNumber_99 : decode cX7_readNumber 99 = .ok (.getfield 150, 3) := by decide +kernel
theorem dX7_readNumber_102 : decode cX7_readNumber 102 = .ok (.iconst 1, 1) := by decide +kernel
theorem dX7_readNumber_103 : decode cX7_readNumber 103 = .ok (.iadd, 1) := by decide +kernel
theorem dX7_readNumber_104 : decode cX7_readNumber 104 = .ok (.putfield 150, 3) := by decide +kernel
theorem dX7_readNumber_107 : decode cX7_readNumber 107 = .ok (.goto (-68), 3) := by decide +kernel
theorem dX7_readNumber_110 : decode cX7_readNumber 110 = .ok (.aload_n 0, 1) := by decide +kernel
theorem dX7_readNumber_111 : decode cX7_readNumber 111 = .ok (.getfield 41, 3) := by decide +kernel
theorem dX7_readNumber_114 : decode cX7_readNumber 114 = .ok (.iload_n 1, 1) := by decide +kernel
theorem dX7_readNumber_115 : decode cX7_readNumber 115 = .ok (.iload 4, 2) := by decide +kernel
theorem dX7_readNumber_117 : decode cX7_readNumber 117 = .ok (.iastore, 1) := by decide +kernel
theorem dX7_readNumber_118 : decode cX7_readNumber 118 = .ok (.iconst 1, 1) := by decide +kernel
theorem dX7_readNumber_119 : decode cX7_readNumber 119 = .ok (.ireturn, 1) := by decide +kernel
theorem dX7_readSyllable_0 : decode cX7_readSyllable 0 = .ok (.aload_n 0, 1) := by decide +kernel
theorem dX7_readSyllable_1 : decode cX7_readSyllable 1 = .ok (.getfield 41, 3) := by decide +kernel
theorem dX7_readSyllable_4 : decode cX7_readSyllable 4 = .ok (.iconst 0, 1) := by decide +kernel
theorem dX7_readSyllable_5 : decode cX7_readSyllable 5 = .ok (.iconst 0, 1) := by decide +kernel
theorem dX7_readSyllable_6 : decode cX7_readSyllable 6 = .ok (.iastore, 1) := by decide +kernel
theorem dX7_readSyllable_7 : decode cX7_readSyllable 7 = .ok (.aload_n 0, 1) := by decide +kernel
theorem dX7_readSyllable_8 : decode cX7_readSyllable 8 = .ok (.bipush 46, 2) := by decide +kernel
theorem dX7_readSyllable_10 : decode cX7_readSyllable 10 = .ok (.invokevirtual 156, 3) := by decide +kernel
theorem dX7_readSyllable_13 : decode cX7_readSyllable 13 = .ok (.ifCond .eq 14, 3) := by decide +kernel
theorem dX7_readSyllable_16 : decode cX7_readSyllable 16 = .ok (.aload_n 0, 1) := by decide +kernel
theorem dX7_readSyllable_17 : decode cX7_readSyllable 17 = .ok (.iconst 0, 1) := by decide +kernel
theorem dX7_readSyllable_18 : decode cX7_readSyllable 18 = .ok (.iconst 1, 1) := by decide +kernel
theorem dX7_readSyllable_19 : decode cX7_readSyllable 19 = .ok (.bipush 32, 2) := by decide +kernel
theorem dX7_readSyllable_21 : decode cX7_readSyllable 21 = .ok (.invokevirtual 159, 3) := by decide +kernel
theorem dX7_readSyllable_24 : decode cX7_readSyllable 24 = .ok (.ifCond .eq 14, 3) := by decide +kernel
theorem dX7_readSyllable_27 : decode cX7_readSyllable 27 = .ok (.aload_n 0, 1) := by decide +kernel
theorem dX7_readSyllable_28 : decode cX7_readSyllable 28 = .ok (.iconst 1, 1) := by decide +kernel
theorem dX7_readSyllable_29 : decode cX7_readSyllable 29 = .ok (.iconst 0, 1) := by decide +kernel
theorem dX7_readSyllable_30 : decode cX7_readSyllable 30 = .ok (.bipush 60, 2) := by decide +kernel
theorem dX7_readSyllable_32 : decode cX7_readSyllable 32 = .ok (.invokevirtual 159, 3) := by decide +kernel
theorem dX7_readSyllable_35 : decode cX7_readSyllable 35 = .ok (.ifCond .ne 5, 3) := by decide +kernel
theorem dX7_readSyllable_38 : decode cX7_readSyllable 38 = .ok (.iconst 0, 1) := by decide +kernel
theorem dX7_readSyllable_39 : decode cX7_readSyllable 39 = .ok (.ireturn, 1) := by decide +kernel
theorem dX7_readSyllable_40 : decode cX7_readSyllable 40 = .ok (.aload_n 0, 1) := by decide +kernel
theorem dX7_readSyllable_41 : decode cX7_readSyllable 41 = .ok (.getfield 41, 3) := by decide +kernel
theorem dX7_readSyllable_44 : decode cX7_readSyllable 44 = .ok (.iconst 2, 1) := by decide +kernel
theorem dX7_readSyllable_45 : decode cX7_readSyllable 45 = .ok (.aload_n 0, 1) := by decide +kernel
theorem dX7_readSyllable_46 : decode cX7_readSyllable 46 = .ok (.getfield 41, 3) := by decide +kernel
theorem dX7_readSyllable_49 : decode cX7_readSyllable 49 = .ok (.iconst 1, 1) := by decide +kernel
theorem dX7_readSyllable_50 : decode cX7_readSyllable 50 = .ok (.iaload, 1) := by decide +kernel
theorem dX7_readSyllable_51 : decode cX7_readSyllable 51 = .ok (.iastore, 1) := by decide +kernel
theorem dX7_readSyllable_52 : decode cX7_readSyllable 52 = .ok (.aload_n 0, 1) := by decide +kernel
theorem dX7_readSyllable_53 : decode cX7_readSyllable 53 = .ok (.bipush 45, 2) := by decide +kernel
theorem dX7_readSyllable_55 : decode cX7_readSyllable 55 = .ok (.invokevirtual 156, 3) := by decide +kernel
theorem dX7_readSyllable_58 : decode cX7_readSyllable 58 = .ok (.ifCond .eq 16, 3) := by decide +kernel
theorem dX7_readSyllable_61 : decode cX7_readSyllable 61 = .ok (.aload_n 0, 1) := by decide +kernel
theorem dX7_readSyllable_62 : decode cX7_readSyllable 62 = .ok (.iconst 2, 1) := by decide +kernel
theorem dX7_readSyllable_63 : decode cX7_readSyllable 63 = .ok (.iconst 0, 1) := by decide +kernel
theorem dX7_readSyllable_64 : decode cX7_readSyllable 64 = .ok (.bipush 60, 2) := by decide +kernel
theorem dX7_readSyllable_66 : decode cX7_readSyllable 66 = .ok (.invokevirtual 159, 3) := by decide +kernel
theorem dX7_readSyllable_69 : decode cX7_readSyllable 69 = .ok (.ifCond .ne 5, 3) := by decide +kernel
theorem dX7_readSyllable_72 : decode cX7_readSyllable 72 = .ok (.iconst 0, 1) := by decide +kernel
theorem dX7_readSyllable_73 : decode cX7_readSyllable 73 = .ok (.ireturn, 1) := by decide +kernel
theorem dX7_readSyllable_74 : decode cX7_readSyllable 74 = .ok (.aload_n 0, 1) := by decide +kernel
theorem dX7_readSyllable_75 : decode cX7_readSyllable 75 = .ok (.bipush 58, 2) := by decide +kernel
theorem dX7_readSyllable_77 : decode cX7_readSyllable 77 = .ok (.invokevirtual 156, 3) := by decide +kernel
theorem dX7_readSyllable_80 : decode cX7_readSyllable 80 = .ok (.ifCond .eq 18, 3) := by decide +kernel
theorem dX7_readSyllable_83 : decode cX7_readSyllable 83 = .ok (.aload_n 0, 1) := by decide +kernel
theorem dX7_readSyllable_84 : decode cX7_readSyllable 84 = .ok (.iconst 3, 1) := by decide +kernel
theorem dX7_readSyllable_85 : decode cX7_readSyllable 85 = .ok (.iconst 1, 1) := by decide +kernel
theorem dX7_readSyllable_86 : decode cX7_readSyllable 86 = .ok (.bipush 32, 2) := by decide +kernel
theorem dX7_readSyllable_88 : decode cX7_readSyllable 88 = .ok (.invokevirtual 159, 3) := by decide +kernel
theorem dX7_readSyllable_91 : decode cX7_readSyllable 91 = .ok (.ifCond .eq 7, 3) := by decide +kernel
theorem dX7_readSyllable_94 : decode cX7_readSyllable 94 = .ok (.iconst 1, 1) := by decide +kernel
theorem dX7_readSyllable_95 : decode cX7_readSyllable 95 = .ok (.goto 4, 3) := by decide +kernel
theorem dX7_readSyllable_98 : decode cX7_readSyllable 98 = .ok (.iconst 0, 1) := by decide +kernel
theorem dX7_readSyllable_99 : decode cX7_readSyllable 99 = .ok (.ireturn, 1) := by decide +kernel
theorem dX7_readText_0 : decode cX7_readText 0 = .ok (.aload_n 0, 1) := by decide +kernel
theorem dX7_readText_1 : decode cX7_readText 1 = .ok (.iconst 0, 1) := by decide +kernel
theorem dX7_readText_2 : decode cX7_readText 2 = .ok (.putfield 150, 3) := by decide +kernel
theorem dX7_readText_5 : decode cX7_readText 5 = .ok (.aload_n 0, 1) := by decide +kernel
theorem dX7_readText_6 : decode cX7_readText 6 = .ok (.iconst 0, 1) := by decide +kernel
theorem dX7_readText_7 : decode cX7_readText 7 = .ok (.putfield 162, 3) := by decide +kernel
theorem dX7_readText_10 : decode cX7_readText 10 = .ok (.iconst 1, 1) := by decide +kernel
theorem dX7_readText_11 : decode cX7_readText 11 = .ok (.istore_n 2, 1) := by decide +kernel
theorem dX7_readText_12 : decode cX7_readText 12 = .ok (.aload_n 0, 1) := by decide +kernel
theorem dX7_readText_13 : decode cX7_readText 13 = .ok (.invokevirtual 165, 3) := by decide +kernel
theorem dX7_readText_16 : decode cX7_readText 16 = .ok (.istore_n 3, 1) := by decide +kernel
theorem dX7_readText_17 : decode cX7_readText 17 = .ok (.iload_n 3, 1) := by decide +kernel
theorem dX7_readText_18 : decode cX7_readText 18 = .ok (.ifCond .eq 117, 3) := by decide +kernel
theorem dX7_readText_21 : decode cX7_readText 21 = .ok (.aload_n 0, 1) := by decide +kernel
theorem dX7_readText_22 : decode cX7_readText 22 = .ok (.dup, 1) := by decide +kernel
theorem dX7_readText_23 : decode cX7_readText 23 = .ok (.getfield 162, 3) := by decide +kernel
theorem dX7_readText_26 : decode cX7_readText 26 = .ok (.aload_n 0, 1) := by decide +kernel
theorem dX7_readText_27 : decode cX7_readText 27 = .ok (.getfield 41, 3) := by decide +kernel
theorem dX7_readText_30 : decode cX7_readText 30 = .ok (.iconst 0, 1) := by decide +kernel
theorem dX7_readText_31 : decode cX7_readText 31 = .ok (.iaload, 1) := by decide +kernel
theorem dX7_readText_32 : decode cX7_readText 32 = .ok (.aload_n 0, 1) := by decide +kernel
theorem dX7_readText_33 : decode cX7_readText 33 = .ok (.getfield 41, 3) := by decide +kernel
theorem dX7_readText_36 : decode cX7_readText 36 = .ok (.iconst 3, 1) := by decide +kernel
theorem dX7_readText_37 : decode cX7_readText 37 = .ok (.iaload, 1) := by decide +kernel
theorem dX7_readText_38 : decode cX7_readText 38 = .ok (.iadd, 1) := by decide +kernel
theorem dX7_readText_39 : decode cX7_readText 39 = .ok (.iadd, 1) := by decide +kernel
theorem dX7_readText_40 : decode cX7_readText 40 = .ok (.putfield 162, 3) := by decide +kernel
theorem dX7_readText_43 : decode cX7_readText 43 = .ok (.iload_n 1, 1) := by decide +kernel
theorem dX7_readText_44 : decode cX7_readText 44 = .ok (.ifCond .eq 33, 3) := by decide +kernel
theorem dX7_readText_47 : decode cX7_readText 47 = .ok (.aload_n 0, 1) := by decide +kernel
theorem dX7_readText_48 : decode cX7_readText 48 = .ok (.aload_n 0, 1) := by decide +kernel
theorem dX7_readText_49 : decode cX7_readText 49 = .ok (.getfield 41, 3) := by decide +kernel
theorem dX7_readText_52 : decode cX7_readText 52 = .ok (.iconst 0, 1) := by decide +kernel
theorem dX7_readText_53 : decode cX7_readText 53 = .ok (.iaload, 1) := by decide +kernel
theorem dX7_readText_54 : decode cX7_readText 54 = .ok (.aload_n 0, 1) := by decide +kernel
theorem dX7_readText_55 : decode cX7_readText 55 = .ok (.getfield 41, 3) := by decide +kernel
theorem dX7_readText_58 : decode cX7_readText 58 = .ok (.iconst 1, 1) := by decide +kernel
theorem dX7_readText_59 : decode cX7_readText 59 = .ok (.iaload, 1) := by decide +kernel
theorem dX7_readText_60 : decode cX7_readText 60 = .ok (.aload_n 0, 1) := by decide +kernel
theorem dX7_readText_61 : decode cX7_readText 61 = .ok (.getfield 41, 3) := by decide +kernel
theorem dX7_readText_64 : decode cX7_readText 64 = .ok (.iconst 2, 1) := by decide +kernel
theorem dX7_readText_65 : decode cX7_readText 65 = .ok (.iaload, 1) := by decide +kernel
theorem dX7_readText_66 : decode cX7_readText 66 = .ok (.aload_n 0, 1) := by decide +kernel
theorem dX7_readText_67 : decode cX7_readText 67 = .ok (.getfield 41, 3) := by decide +kernel
theorem dX7_readText_70 : decode cX7_readText 70 = .ok (.iconst 3, 1) := by decide +kernel
theorem dX7_readText_71 : decode cX7_readText 71 = .ok (.iaload, 1) := by decide +kernel
theorem dX7_readText_72 : decode cX7_readText 72 = .ok (.iload_n 2, 1) := by decide +kernel
theorem dX7_readText_73 : decode cX7_readText 73 = .ok (.invokevirtual 131, 3) := by decide +kernel
theorem dX7_readText_76 : decode cX7_readText 76 = .ok (.pop, 1) := by decide +kernel
theorem dX7_readText_77 : decode cX7_readText 77 = .ok (.aload_n 0, 1) := by decide +kernel
theorem dX7_readText_78 : decode cX7_readText 78 = .ok (.getfield 150, 3) := by decide +kernel
theorem dX7_readText_81 : decode cX7_readText 81 = .ok (.aload_n 0, 1) := by decide +kernel
theorem dX7_readText_82 : decode cX7_readText 82 = .ok (.getfield 147, 3) := by decide +kernel
theorem dX7_readText_85 : decode cX7_readText 85 = .ok (.if_icmp .ne 5, 3) := by decide +kernel
theorem dX7_readText_88 : decode cX7_readText 88 = .ok (.iconst 1, 1) := by decide +kernel
theorem dX7_readText_89 : decode cX7_readText 89 = .ok (.ireturn, 1) := by decide +kernel
theorem dX7_readText_90 : decode cX7_readText 90 = .ok (.aload_n 0, 1) := by decide +kernel
theorem dX7_readText_91 : decode cX7_readText 91 = .ok (.bipush 47, 2) := by decide +kernel
theorem dX7_readText_93 : decode cX7_readText 93 = .ok (.invokevirtual 156, 3) := by decide +kernel
theorem dX7_readText_96 : decode cX7_readText 96 = .ok (.ifCond .eq 7, 3) := by decide +kernel
theorem dX7_readText_99 : decode cX7_readText 99 = .ok (.iconst 1, 1) := by decide +kernel
theorem dX7_readText_100 : decode cX7_readText 100 = .ok (.goto 4, 3) := by decide +kernel
theorem dX7_readText_103 : decode cX7_readText 103 = .ok (.iconst 0, 1) := by decide +kernel
theorem dX7_readText_104 : decode cX7_readText 104 = .ok (.istore_n 2, 1) := by decide +kernel
theorem dX7_readText_105 : decode cX7_readText 105 = .ok (.iload_n 2, 1) := by decide +kernel
theorem dX7_readText_106 : decode cX7_readText 106 = .ok (.iconst 1, 1) := by decide +kernel
theorem dX7_readText_107 : decode cX7_readText 107 = .ok (.if_icmp .eq 12, 3) := by decide +kernel
theorem dX7_readText_110 : decode cX7_readText 110 = .ok (.aload_n 0, 1) := by decide +kernel
theorem dX7_readText_111 : decode cX7_readText 111 = .ok (.bipush 44, 2) := by decide +kernel
theorem dX7_readText_113 : decode cX7_readText 113 = .ok (.invokevirtual 156, 3) := by decide +kernel
theorem dX7_readText_116 : decode cX7_readText 116 = .ok (.ifCond .eq 14, 3) := by decide +kernel
theorem dX7_readText_119 : decode cX7_readText 119 = .ok (.aload_n 0, 1) := by decide +kernel
theorem dX7_readText_120 : decode cX7_readText 120 = .ok (.invokevirtual 165, 3) := by decide +kernel
theorem dX7_readText_123 : decode cX7_readText 123 = .ok (.ifCond .eq 7, 3) := by decide +kernel
theorem dX7_readText_126 : decode cX7_readText 126 = .ok (.iconst 1, 1) := by decide +kernel
theorem dX7_readText_127 : decode cX7_readText 127 = .ok (.goto 4, 3) := by decide +kernel
theorem dX7_readText_130 : decode cX7_readText 130 = .ok (.iconst 0, 1) := by decide +kernel
theorem dX7_readText_131 : decode cX7_readText 131 = .ok (.istore_n 3, 1) := by decide +kernel
theorem dX7_readText_132 : decode cX7_readText 132 = .ok (.goto (-115), 3) := by decide +kernel
theorem dX7_readText_135 : decode cX7_readText 135 = .ok (.iconst 0, 1) := by decide +kernel
theorem dX7_readText_136 : decode cX7_readText 136 = .ok (.ireturn, 1) := by decide +kernel
theorem dX7_read_0 : decode cX7_read 0 = .ok (.aload_n 0, 1) := by decide +kernel
theorem dX7_read_1 : decode cX7_read 1 = .ok (.iconst 0, 1) := by decide +kernel
theorem dX7_read_2 : decode cX7_read 2 = .ok (.invokevirtual 169, 3) := by decide +kernel
theorem dX7_read_5 : decode cX7_read 5 = .ok (.ifCond .ne 11, 3) := by decide +kernel
theorem dX7_read_8 : decode cX7_read 8 = .ok (.bipush (-100), 2) := by decide +kernel
theorem dX7_read_10 : decode cX7_read 10 = .ok (.aload_n 0, 1) := by decide +kernel
theorem dX7_read_11 : decode cX7_read 11 = .ok (.getfield 150, 3) := by decide +kernel
theorem dX7_read_14 : decode cX7_read 14 = .ok (.isub, 1) := by decide +kernel
theorem dX7_read_15 : decode cX7_read 15 = .ok (.ireturn, 1) := by decide +kernel
theorem dX7_read_16 : decode cX7_read 16 = .ok (.aload_n 0, 1) := by decide +kernel
theorem dX7_read_17 : decode cX7_read 17 = .ok (.getfield 162, 3) := by decide +kernel
theorem dX7_read_20 : decode cX7_read 20 = .ok (.sipush 600, 3) := by decide +kernel
theorem dX7_read_23 : decode cX7_read 23 = .ok (.if_icmp .le 6, 3) := by decide +kernel
theorem dX7_read_26 : decode cX7_read 26 = .ok (.bipush (-3), 2) := by decide +kernel
theorem dX7_read_28 : decode cX7_read 28 = .ok (.ireturn, 1) := by decide +kernel
theorem dX7_read_29 : decode cX7_read 29 = .ok (.aload_n 0, 1) := by decide +kernel
theorem dX7_read_30 : decode cX7_read 30 = .ok (.invokevirtual 128, 3) := by decide +kernel
theorem dX7_read_33 : decode cX7_read 33 = .ok (.aload_n 0, 1) := by decide +kernel
theorem dX7_read_34 : decode cX7_read 34 = .ok (.getfield 7, 3) := by decide +kernel
theorem dX7_read_37 : decode cX7_read 37 = .ok (.iconst 5, 1) := by decide +kernel
theorem dX7_read_38 : decode cX7_read 38 = .ok (.iconst 0, 1) := by decide +kernel
theorem dX7_read_39 : decode cX7_read 39 = .ok (.iastore, 1) := by decide +kernel
theorem dX7_read_40 : decode cX7_read 40 = .ok (.aload_n 0, 1) := by decide +kernel
theorem dX7_read_41 : decode cX7_read 41 = .ok (.iconst 1, 1) := by decide +kernel
theorem dX7_read_42 : decode cX7_read 42 = .ok (.invokevirtual 169, 3) := by decide +kernel
theorem dX7_read_45 : decode cX7_read 45 = .ok (.ifCond .eq 12, 3) := by decide +kernel
theorem dX7_read_48 : decode cX7_read 48 = .ok (.aload_n 0, 1) := by decide +kernel
theorem dX7_read_49 : decode cX7_read 49 = .ok (.getfield 7, 3) := by decide +kernel
theorem dX7_read_52 : decode cX7_read 52 = .ok (.iconst 5, 1) := by decide +kernel
theorem dX7_read_53 : decode cX7_read 53 = .ok (.iaload, 1) := by decide +kernel
theorem dX7_read_54 : decode cX7_read 54 = .ok (.goto 4, 3) := by decide +kernel
theorem dX7_read_57 : decode cX7_read 57 = .ok (.iconst 0, 1) := by decide +kernel
theorem dX7_read_58 : decode cX7_read 58 = .ok (.ireturn, 1) := by decide +kernel
theorem dX7_undo_0 : decode cX7_undo 0 = .ok (.aload_n 0, 1) := by decide +kernel
theorem dX7_undo_1 : decode cX7_undo 1 = .ok (.getfield 48, 3) := by decide +kernel
theorem dX7_undo_4 : decode cX7_undo 4 = .ok (.ifCond .ne 6, 3) := by decide +kernel
theorem dX7_undo_7 : decode cX7_undo 7 = .ok (.bipush (-5), 2) := by decide +kernel
theorem dX7_undo_9 : decode cX7_undo 9 = .ok (.ireturn, 1) := by decide +kernel
theorem dX7_undo_10 : decode cX7_undo 10 = .ok (.aload_n 0, 1) := by decide +kernel
theorem dX7_undo_11 : decode cX7_undo 11 = .ok (.dup, 1) := by decide +kernel
theorem dX7_undo_12 : decode cX7_undo 12 = .ok (.getfield 48, 3) := by decide +kernel
theorem dX7_undo_15 : decode cX7_undo 15 = .ok (.iconst 1, 1) := by decide +kernel
theorem dX7_undo_16 : decode cX7_undo 16 = .ok (.isub, 1) := by decide +kernel
theorem dX7_undo_17 : decode cX7_undo 17 = .ok (.putfield 48, 3) := by decide +kernel
theorem dX7_undo_20 : decode cX7_undo 20 = .ok (.aload_n 0, 1) := by decide +kernel
theorem dX7_undo_21 : decode cX7_undo 21 = .ok (.getfield 13, 3) := by decide +kernel
theorem dX7_undo_24 : decode cX7_undo 24 = .ok (.sipush 806, 3) := by decide +kernel
theorem dX7_undo_27 : decode cX7_undo 27 = .ok (.aload_n 0, 1) := by decide +kernel
theorem dX7_undo_28 : decode cX7_undo 28 = .ok (.getfield 48, 3) := by decide +kernel
theorem dX7_undo_31 : decode cX7_undo 31 = .ok (.imul, 1) := by decide +kernel
theorem dX7_undo_32 : decode cX7_undo 32 = .ok (.aload_n 0, 1) := by decide +kernel
theorem dX7_undo_33 : decode cX7_undo 33 = .ok (.getfield 7, 3) := by decide +kernel
theorem dX7_undo_36 : decode cX7_undo 36 = .ok (.iconst 0, 1) := by decide +kernel
theorem dX7_undo_37 : decode cX7_undo 37 = .ok (.invokestatic 52, 3) := by decide +kernel
theorem dX7_undo_40 : decode cX7_undo 40 = .ok (.aload_n 0, 1) := by decide +kernel
theorem dX7_undo_41 : decode cX7_undo 41 = .ok (.getfield 48, 3) := by decide +kernel
theorem dX7_undo_44 : decode cX7_undo 44 = .ok (.ireturn, 1) := by decide +kernel
theorem dX7_keep_0 : decode cX7_keep 0 = .ok (.aload_n 0, 1) := by decide +kernel
theorem dX7_keep_1 : decode cX7_keep 1 = .ok (.getfield 7, 3) := by decide +kernel
theorem dX7_keep_4 : decode cX7_keep 4 = .ok (.iconst 0, 1) := by decide +kernel
theorem dX7_keep_5 : decode cX7_keep 5 = .ok (.aload_n 0, 1) := by decide +kernel
theorem dX7_keep_6 : decode cX7_keep 6 = .ok (.getfield 16, 3) := by decide +kernel
theorem dX7_keep_9 : decode cX7_keep 9 = .ok (.iconst 0, 1) := by decide +kernel
theorem dX7_keep_10 : decode cX7_keep 10 = .ok (.invokestatic 52, 3) := by decide +kernel
theorem dX7_keep_13 : decode cX7_keep 13 = .ok (.aload_n 0, 1) := by decide +kernel
theorem dX7_keep_14 : decode cX7_keep 14 = .ok (.iconst 1, 1) := by decide +kernel
theorem dX7_keep_15 : decode cX7_keep 15 = .ok (.putfield 173, 3) := by decide +kernel
theorem dX7_keep_18 : decode cX7_keep 18 = .ok (.aload_n 0, 1) := by decide +kernel
theorem dX7_keep_19 : decode cX7_keep 19 = .ok (.getfield 7, 3) := by decide +kernel
theorem dX7_keep_22 : decode cX7_keep 22 = .ok (.iconst 5, 1) := by decide +kernel
theorem dX7_keep_23 : decode cX7_keep 23 = .ok (.iaload, 1) := by decide +kernel
theorem dX7_keep_24 : decode cX7_keep 24 = .ok (.ireturn, 1) := by decide +kernel
theorem dX7_restore_0 : decode cX7_restore 0 = .ok (.aload_n 0, 1) := by decide +kernel
theorem dX7_restore_1 : decode cX7_restore 1 = .ok (.getfield 173, 3) := by decide +kernel
theorem dX7_restore_4 : decode cX7_restore 4 = .ok (.ifCond .ne 6, 3) := by decide +kernel
theorem dX7_restore_7 : decode cX7_restore 7 = .ok (.bipush (-5), 2) := by decide +kernel
theorem dX7_restore_9 : decode cX7_restore 9 = .ok (.ireturn, 1) := by decide +kernel
theorem dX7_restore_10 : decode cX7_restore 10 = .ok (.aload_n 0, 1) := by decide +kernel
theorem dX7_restore_11 : decode cX7_restore 11 = .ok (.invokevirtual 128, 3) := by decide +kernel
theorem dX7_restore_14 : decode cX7_restore 14 = .ok (.aload_n 0, 1) := by decide +kernel
theorem dX7_restore_15 : decode cX7_restore 15 = .ok (.getfield 16, 3) := by decide +kernel
theorem dX7_restore_18 : decode cX7_restore 18 = .ok (.iconst 0, 1) := by decide +kernel
theorem dX7_restore_19 : decode cX7_restore 19 = .ok (.aload_n 0, 1) := by decide +kernel
theorem dX7_restore_20 : decode cX7_restore 20 = .ok (.getfield 7, 3) := by decide +kernel
theorem dX7_restore_23 : decode cX7_restore 23 = .ok (.iconst 0, 1) := by decide +kernel
theorem dX7_restore_24 : decode cX7_restore 24 = .ok (.invokestatic 52, 3) := by decide +kernel
theorem dX7_restore_27 : decode cX7_restore 27 = .ok (.aload_n 0, 1) := by decide +kernel
theorem dX7_restore_28 : decode cX7_restore 28 = .ok (.getfield 7, 3) := by decide +kernel
theorem dX7_restore_31 : decode cX7_restore 31 = .ok (.iconst 5, 1) := by decide +kernel
theorem dX7_restore_32 : decode cX7_restore 32 = .ok (.iaload, 1) := by decide +kernel
theorem dX7_restore_33 : decode cX7_restore 33 = .ok (.ireturn, 1) := by decide +kernel
theorem dX7_syllable_0 : decode cX7_syllable 0 = .ok (.aload_n 0, 1) := by decide +kernel
theorem dX7_syllable_1 : decode cX7_syllable 1 = .ok (.iload_n 1, 1) := by decide +kernel
theorem dX7_syllable_2 : decode cX7_syllable 2 = .ok (.invokevirtual 144, 3) := by decide +kernel
theorem dX7_syllable_5 : decode cX7_syllable 5 = .ok (.ifCond .ne 5, 3) := by decide +kernel
theorem dX7_syllable_8 : decode cX7_syllable 8 = .ok (.iconst (-1), 1) := by decide +kernel
theorem dX7_syllable_9 : decode cX7_syllable 9 = .ok (.ireturn, 1) := by decide +kernel
theorem dX7_syllable_10 : decode cX7_syllable 10 = .ok (.aload_n 0, 1) := by decide +kernel
theorem dX7_syllable_11 : decode cX7_syllable 11 = .ok (.invokevirtual 138, 3) := by decide +kernel
theorem dX7_syllable_14 : decode cX7_syllable 14 = .ok (.iload_n 2, 1) := by decide +kernel
theorem dX7_syllable_15 : decode cX7_syllable 15 = .ok (.tableswitch 122 0 11 #[61, 61, 61, 61, 68, 74, 81, 88, 94, 101, 108, 115], 61) := by decide +kernel
theorem dX7_syllable_76 : decode cX7_syllable 76 = .ok (.aload_n 0, 1) := by decide +kernel
theorem dX7_syllable_77 : decode cX7_syllable 77 = .ok (.iload_n 1, 1) := by decide +kernel
theorem dX7_syllable_78 : decode cX7_syllable 78 = .ok (.iload_n 2, 1) := by decide +kernel
theorem dX7_syllable_79 : decode cX7_syllable 79 = .ok (.invokevirtual 56, 3) := by decide +kernel
theorem dX7_syllable_82 : decode cX7_syllable 82 = .ok (.ireturn, 1) := by decide +kernel
theorem dX7_syllable_83 : decode cX7_syllable 83 = .ok (.aload_n 0, 1) := by decide +kernel
theorem dX7_syllable_84 : decode cX7_syllable 84 = .ok (.iload_n 1, 1) := by decide +kernel
theorem dX7_syllable_85 : decode cX7_syllable 85 = .ok (.invokevirtual 64, 3) := by decide +kernel
theorem dX7_syllable_88 : decode cX7_syllable 88 = .ok (.ireturn, 1) := by decide +kernel
theorem dX7_syllable_89 : decode cX7_syllable 89 = .ok (.aload_n 0, 1) := by decide +kernel
theorem dX7_syllable_90 : decode cX7_syllable 90 = .ok (.iload_n 1, 1) := by decide +kernel
theorem dX7_syllable_91 : decode cX7_syllable 91 = .ok (.iconst 0, 1) := by decide +kernel
theorem dX7_syllable_92 : decode cX7_syllable 92 = .ok (.invokevirtual 90, 3) := by decide +kernel
theorem dX7_syllable_95 : decode cX7_syllable 95 = .ok (.ireturn, 1) := by decide +kernel
theorem dX7_syllable_96 : decode cX7_syllable 96 = .ok (.aload_n 0, 1) := by decide +kernel
theorem dX7_syllable_97 : decode cX7_syllable 97 = .ok (.getfield 26, 3) := by decide +kernel
theorem dX7_syllable_100 : decode cX7_syllable 100 = .ok (.iload_n 1, 1) := by decide +kernel
theorem dX7_syllable_101 : decode cX7_syllable 101 = .ok (.iaload, 1) := by decide +kernel
theorem dX7_syllable_102 : decode cX7_syllable 102 = .ok (.ireturn, 1) := by decide +kernel
theorem dX7_syllable_103 : decode cX7_syllable 103 = .ok (.aload_n 0, 1) := by decide +kernel
theorem dX7_syllable_104 : decode cX7_syllable 104 = .ok (.iload_n 1, 1) := by decide +kernel
theorem dX7_syllable_105 : decode cX7_syllable 105 = .ok (.invokevirtual 83, 3) := by decide +kernel
theorem dX7_syllable_108 : decode cX7_syllable 108 = .ok (.ireturn, 1) := by decide +kernel
theorem dX7_syllable_109 : decode cX7_syllable 109 = .ok (.aload_n 0, 1) := by decide +kernel
theorem dX7_syllable_110 : decode cX7_syllable 110 = .ok (.getfield 29, 3) := by decide +kernel
theorem dX7_syllable_113 : decode cX7_syllable 113 = .ok (.iload_n 1, 1) := by decide +kernel
theorem dX7_syllable_114 : decode cX7_syllable 114 = .ok (.iaload, 1) := by decide +kernel
theorem dX7_syllable_115 : decode cX7_syllable 115 = .ok (.ireturn, 1) := by decide +kernel
theorem dX7_syllable_116 : decode cX7_syllable 116 = .ok (.aload_n 0, 1) := by decide +kernel
theorem dX7_syllable_117 : decode cX7_syllable 117 = .ok (.getfield 32, 3) := by decide +kernel
theorem dX7_syllable_120 : decode cX7_syllable 120 = .ok (.iload_n 1, 1) := by decide +kernel
theorem dX7_syllable_121 : decode cX7_syllable 121 = .ok (.iaload, 1) := by decide +kernel
theorem dX7_syllable_122 : decode cX7_syllable 122 = .ok (.ireturn, 1) := by decide +kernel
theorem dX7_syllable_123 : decode cX7_syllable 123 = .ok (.aload_n 0, 1) := by decide +kernel
theorem dX7_syllable_124 : decode cX7_syllable 124 = .ok (.getfield 38, 3) := by decide +kernel
theorem dX7_syllable_127 : decode cX7_syllable 127 = .ok (.iload_n 1, 1) := by decide +kernel
theorem dX7_syllable_128 : decode cX7_syllable 128 = .ok (.iaload, 1) := by decide +kernel
theorem dX7_syllable_129 : decode cX7_syllable 129 = .ok (.ireturn, 1) := by decide +kernel
theorem dX7_syllable_130 : decode cX7_syllable 130 = .ok (.aload_n 0, 1) := by decide +kernel
theorem dX7_syllable_131 : decode cX7_syllable 131 = .ok (.getfield 35, 3) := by decide +kernel
theorem dX7_syllable_134 : decode cX7_syllable 134 = .ok (.iload_n 1, 1) := by decide +kernel
theorem dX7_syllable_135 : decode cX7_syllable 135 = .ok (.iaload, 1) := by decide +kernel
theorem dX7_syllable_136 : decode cX7_syllable 136 = .ok (.ireturn, 1) := by decide +kernel
theorem dX7_syllable_137 : decode cX7_syllable 137 = .ok (.bipush (-2), 2) := by decide +kernel
theorem dX7_syllable_139 : decode cX7_syllable 139 = .ok (.ireturn, 1) := by decide +kernel
theorem dX7_wanted_0 : decode cX7_wanted 0 = .ok (.iload_n 1, 1) := by decide +kernel
theorem dX7_wanted_1 : decode cX7_wanted 1 = .ok (.invokestatic 67, 3) := by decide +kernel
theorem dX7_wanted_4 : decode cX7_wanted 4 = .ok (.ifCond .ne 6, 3) := by decide +kernel
theorem dX7_wanted_7 : decode cX7_wanted 7 = .ok (.bipush (-2), 2) := by decide +kernel
theorem dX7_wanted_9 : decode cX7_wanted 9 = .ok (.ireturn, 1) := by decide +kernel
theorem dX7_wanted_10 : decode cX7_wanted 10 = .ok (.aload_n 0, 1) := by decide +kernel
theorem dX7_wanted_11 : decode cX7_wanted 11 = .ok (.iload_n 1, 1) := by decide +kernel
theorem dX7_wanted_12 : decode cX7_wanted 12 = .ok (.invokevirtual 177, 3) := by decide +kernel
theorem dX7_wanted_15 : decode cX7_wanted 15 = .ok (.istore_n 2, 1) := by decide +kernel
theorem dX7_wanted_16 : decode cX7_wanted 16 = .ok (.iload_n 2, 1) := by decide +kernel
theorem dX7_wanted_17 : decode cX7_wanted 17 = .ok (.bipush (-5), 2) := by decide +kernel
theorem dX7_wanted_19 : decode cX7_wanted 19 = .ok (.if_icmp .ne 8, 3) := by decide +kernel
theorem dX7_wanted_22 : decode cX7_wanted 22 = .ok (.bipush (-5), 2) := by decide +kernel
theorem dX7_wanted_24 : decode cX7_wanted 24 = .ok (.goto 16, 3) := by decide +kernel
theorem dX7_wanted_27 : decode cX7_wanted 27 = .ok (.aload_n 0, 1) := by decide +kernel
theorem dX7_wanted_28 : decode cX7_wanted 28 = .ok (.iload_n 2, 1) := by decide +kernel
theorem dX7_wanted_29 : decode cX7_wanted 29 = .ok (.iload_n 1, 1) := by decide +kernel
theorem dX7_wanted_30 : decode cX7_wanted 30 = .ok (.aload_n 0, 1) := by decide +kernel
theorem dX7_wanted_31 : decode cX7_wanted 31 = .ok (.iload_n 2, 1) := by decide +kernel
theorem dX7_wanted_32 : decode cX7_wanted 32 = .ok (.iconst 0, 1) := by decide +kernel
theorem dX7_wanted_33 : decode cX7_wanted 33 = .ok (.invokevirtual 56, 3) := by decide +kernel
theorem dX7_wanted_36 : decode cX7_wanted 36 = .ok (.isub, 1) := by decide +kernel
theorem dX7_wanted_37 : decode cX7_wanted 37 = .ok (.invokevirtual 74, 3) := by decide +kernel
theorem dX7_wanted_40 : decode cX7_wanted 40 = .ok (.ireturn, 1) := by decide +kernel
theorem dX7_sung_0 : decode cX7_sung 0 = .ok (.iload_n 1, 1) := by decide +kernel
theorem dX7_sung_1 : decode cX7_sung 1 = .ok (.invokestatic 67, 3) := by decide +kernel
theorem dX7_sung_4 : decode cX7_sung 4 = .ok (.ifCond .ne 6, 3) := by decide +kernel
theorem dX7_sung_7 : decode cX7_sung 7 = .ok (.bipush (-2), 2) := by decide +kernel
theorem dX7_sung_9 : decode cX7_sung 9 = .ok (.ireturn, 1) := by decide +kernel
theorem dX7_sung_10 : decode cX7_sung 10 = .ok (.aload_n 0, 1) := by decide +kernel
theorem dX7_sung_11 : decode cX7_sung 11 = .ok (.getfield 7, 3) := by decide +kernel
theorem dX7_sung_14 : decode cX7_sung 14 = .ok (.sipush 206, 3) := by decide +kernel
theorem dX7_sung_17 : decode cX7_sung 17 = .ok (.iload_n 1, 1) := by decide +kernel
theorem dX7_sung_18 : decode cX7_sung 18 = .ok (.iadd, 1) := by decide +kernel
theorem dX7_sung_19 : decode cX7_sung 19 = .ok (.iaload, 1) := by decide +kernel
theorem dX7_sung_20 : decode cX7_sung 20 = .ok (.ifCond .ne 8, 3) := by decide +kernel
theorem dX7_sung_23 : decode cX7_sung 23 = .ok (.bipush (-5), 2) := by decide +kernel
theorem dX7_sung_25 : decode cX7_sung 25 = .ok (.goto 15, 3) := by decide +kernel
theorem dX7_sung_28 : decode cX7_sung 28 = .ok (.aload_n 0, 1) := by decide +kernel
theorem dX7_sung_29 : decode cX7_sung 29 = .ok (.getfield 7, 3) := by decide +kernel
theorem dX7_sung_32 : decode cX7_sung 32 = .ok (.sipush 206, 3) := by decide +kernel
theorem dX7_sung_35 : decode cX7_sung 35 = .ok (.iload_n 1, 1) := by decide +kernel
theorem dX7_sung_36 : decode cX7_sung 36 = .ok (.iadd, 1) := by decide +kernel
theorem dX7_sung_37 : decode cX7_sung 37 = .ok (.iaload, 1) := by decide +kernel
theorem dX7_sung_38 : decode cX7_sung 38 = .ok (.iconst 1, 1) := by decide +kernel
theorem dX7_sung_39 : decode cX7_sung 39 = .ok (.isub, 1) := by decide +kernel
theorem dX7_sung_40 : decode cX7_sung 40 = .ok (.ireturn, 1) := by decide +kernel
theorem dX7_lit_0 : decode cX7_lit 0 = .ok (.aload_n 0, 1) := by decide +kernel
theorem dX7_lit_1 : decode cX7_lit 1 = .ok (.iload_n 1, 1) := by decide +kernel
theorem dX7_lit_2 : decode cX7_lit 2 = .ok (.invokevirtual 144, 3) := by decide +kernel
theorem dX7_lit_5 : decode cX7_lit 5 = .ok (.ifCond .ne 5, 3) := by decide +kernel
theorem dX7_lit_8 : decode cX7_lit 8 = .ok (.iconst (-1), 1) := by decide +kernel
theorem dX7_lit_9 : decode cX7_lit 9 = .ok (.ireturn, 1) := by decide +kernel
theorem dX7_lit_10 : decode cX7_lit 10 = .ok (.iload_n 2, 1) := by decide +kernel
theorem dX7_lit_11 : decode cX7_lit 11 = .ok (.invokestatic 67, 3) := by decide +kernel
theorem dX7_lit_14 : decode cX7_lit 14 = .ok (.ifCond .ne 6, 3) := by decide +kernel
theorem dX7_lit_17 : decode cX7_lit 17 = .ok (.bipush (-2), 2) := by decide +kernel
theorem dX7_lit_19 : decode cX7_lit 19 = .ok (.ireturn, 1) := by decide +kernel
theorem dX7_lit_20 : decode cX7_lit 20 = .ok (.iload_n 2, 1) := by decide +kernel
theorem dX7_lit_21 : decode cX7_lit 21 = .ok (.aload_n 0, 1) := by decide +kernel
theorem dX7_lit_22 : decode cX7_lit 22 = .ok (.iload_n 1, 1) := by decide +kernel
theorem dX7_lit_23 : decode cX7_lit 23 = .ok (.iconst 0, 1) := by decide +kernel
theorem dX7_lit_24 : decode cX7_lit 24 = .ok (.invokevirtual 56, 3) := by decide +kernel
theorem dX7_lit_27 : decode cX7_lit 27 = .ok (.isub, 1) := by decide +kernel
theorem dX7_lit_28 : decode cX7_lit 28 = .ok (.iconst 1, 1) := by decide +kernel
theorem dX7_lit_29 : decode cX7_lit 29 = .ok (.iadd, 1) := by decide +kernel
theorem dX7_lit_30 : decode cX7_lit 30 = .ok (.istore_n 3, 1) := by decide +kernel
theorem dX7_lit_31 : decode cX7_lit 31 = .ok (.iload_n 3, 1) := by decide +kernel
theorem dX7_lit_32 : decode cX7_lit 32 = .ok (.ifCond .ge 7, 3) := by decide +kernel
theorem dX7_lit_35 : decode cX7_lit 35 = .ok (.iconst 0, 1) := by decide +kernel
theorem dX7_lit_36 : decode cX7_lit 36 = .ok (.goto 23, 3) := by decide +kernel
theorem dX7_lit_39 : decode cX7_lit 39 = .ok (.iload_n 3, 1) := by decide +kernel
theorem dX7_lit_40 : decode cX7_lit 40 = .ok (.aload_n 0, 1) := by decide +kernel
theorem dX7_lit_41 : decode cX7_lit 41 = .ok (.iload_n 1, 1) := by decide +kernel
theorem dX7_lit_42 : decode cX7_lit 42 = .ok (.iconst 1, 1) := by decide +kernel
theorem dX7_lit_43 : decode cX7_lit 43 = .ok (.invokevirtual 56, 3) := by decide +kernel
theorem dX7_lit_46 : decode cX7_lit 46 = .ok (.if_icmp .le 12, 3) := by decide +kernel
theorem dX7_lit_49 : decode cX7_lit 49 = .ok (.aload_n 0, 1) := by decide +kernel
theorem dX7_lit_50 : decode cX7_lit 50 = .ok (.iload_n 1, 1) := by decide +kernel
theorem dX7_lit_51 : decode cX7_lit 51 = .ok (.iconst 1, 1) := by decide +kernel
theorem dX7_lit_52 : decode cX7_lit 52 = .ok (.invokevirtual 56, 3) := by decide +kernel
theorem dX7_lit_55 : decode cX7_lit 55 = .ok (.goto 4, 3) := by decide +kernel
theorem dX7_lit_58 : decode cX7_lit 58 = .ok (.iload_n 3, 1) := by decide +kernel
theorem dX7_lit_59 : decode cX7_lit 59 = .ok (.ireturn, 1) := by decide +kernel
theorem dX7_phrase_0 : decode cX7_phrase 0 = .ok (.iload_n 1, 1) := by decide +kernel
theorem dX7_phrase_1 : decode cX7_phrase 1 = .ok (.iconst 0, 1) := by decide +kernel
theorem dX7_phrase_2 : decode cX7_phrase 2 = .ok (.aload_n 0, 1) := by decide +kernel
theorem dX7_phrase_3 : decode cX7_phrase 3 = .ok (.invokevirtual 110, 3) := by decide +kernel
theorem dX7_phrase_6 : decode cX7_phrase 6 = .ok (.iconst 1, 1) := by decide +kernel
theorem dX7_phrase_7 : decode cX7_phrase 7 = .ok (.isub, 1) := by decide +kernel
theorem dX7_phrase_8 : decode cX7_phrase 8 = .ok (.invokestatic 44, 3) := by decide +kernel
theorem dX7_phrase_11 : decode cX7_phrase 11 = .ok (.ifCond .ne 5, 3) := by decide +kernel
theorem dX7_phrase_14 : decode cX7_phrase 14 = .ok (.iconst (-1), 1) := by decide +kernel
theorem dX7_phrase_15 : decode cX7_phrase 15 = .ok (.ireturn, 1) := by decide +kernel
theorem dX7_phrase_16 : decode cX7_phrase 16 = .ok (.iload_n 2, 1) := by decide +kernel
theorem dX7_phrase_17 : decode cX7_phrase 17 = .ok (.iconst 0, 1) := by decide +kernel
theorem dX7_phrase_18 : decode cX7_phrase 18 = .ok (.iconst 4, 1) := by decide +kernel
theorem dX7_phrase_19 : decode cX7_phrase 19 = .ok (.invokestatic 44, 3) := by decide +kernel
theorem dX7_phrase_22 : decode cX7_phrase 22 = .ok (.ifCond .ne 6, 3) := by decide +kernel
theorem dX7_phrase_25 : decode cX7_phrase 25 = .ok (.bipush (-2), 2) := by decide +kernel
theorem dX7_phrase_27 : decode cX7_phrase 27 = .ok (.ireturn, 1) := by decide +kernel
theorem dX7_phrase_28 : decode cX7_phrase 28 = .ok (.aload_n 0, 1) := by decide +kernel
theorem dX7_phrase_29 : decode cX7_phrase 29 = .ok (.invokevirtual 138, 3) := by decide +kernel
theorem dX7_phrase_32 : decode cX7_phrase 32 = .ok (.aload_n 0, 1) := by decide +kernel
theorem dX7_phrase_33 : decode cX7_phrase 33 = .ok (.iload_n 1, 1) := by decide +kernel
theorem dX7_phrase_34 : decode cX7_phrase 34 = .ok (.iload_n 2, 1) := by decide +kernel
theorem dX7_phrase_35 : decode cX7_phrase 35 = .ok (.invokevirtual 114, 3) := by decide +kernel
theorem dX7_phrase_38 : decode cX7_phrase 38 = .ok (.ireturn, 1) := by decide +kernel
theorem dX7_sungTicks_0 : decode cX7_sungTicks 0 = .ok (.iconst 0, 1) := by decide +kernel
theorem dX7_sungTicks_1 : decode cX7_sungTicks 1 = .ok (.istore_n 1, 1) := by decide +kernel
theorem dX7_sungTicks_2 : decode cX7_sungTicks 2 = .ok (.iconst 0, 1) := by decide +kernel
theorem dX7_sungTicks_3 : decode cX7_sungTicks 3 = .ok (.istore_n 2, 1) := by decide +kernel
theorem dX7_sungTicks_4 : decode cX7_sungTicks 4 = .ok (.iload_n 2, 1) := by decide +kernel
theorem dX7_sungTicks_5 : decode cX7_sungTicks 5 = .ok (.sipush 600, 3) := by decide +kernel
theorem dX7_sungTicks_8 : decode cX7_sungTicks 8 = .ok (.if_icmp .ge 26, 3) := by decide +kernel
theorem dX7_sungTicks_11 : decode cX7_sungTicks 11 = .ok (.iload_n 1, 1) := by decide +kernel
theorem dX7_sungTicks_12 : decode cX7_sungTicks 12 = .ok (.aload_n 0, 1) := by decide +kernel
theorem dX7_sungTicks_13 : decode cX7_sungTicks 13 = .ok (.getfield 23, 3) := by decide +kernel
theorem dX7_sungTicks_16 : decode cX7_sungTicks 16 = .ok (.iload_n 2, 1) := by decide +kernel
theorem dX7_sungTicks_17 : decode cX7_sungTicks 17 = .ok (.iaload, 1) := by decide +kernel
theorem dX7_sungTicks_18 : decode cX7_sungTicks 18 = .ok (.ifCond .le 7, 3) := by decide +kernel
theorem dX7_sungTicks_21 : decode cX7_sungTicks 21 = .ok (.iconst 1, 1) := by decide +kernel
theorem dX7_sungTicks_22 : decode cX7_sungTicks 22 = .ok (.goto 4, 3) := by decide +kernel
theorem dX7_sungTicks_25 : decode cX7_sungTicks 25 = .ok (.iconst 0, 1) := by decide +kernel
theorem dX7_sungTicks_26 : decode cX7_sungTicks 26 = .ok (.iadd, 1) := by decide +kernel
theorem dX7_sungTicks_27 : decode cX7_sungTicks 27 = .ok (.istore_n 1, 1) := by decide +kernel
theorem dX7_sungTicks_28 : decode cX7_sungTicks 28 = .ok (.iinc 2 1, 3) := by decide +kernel
theorem dX7_sungTicks_31 : decode cX7_sungTicks 31 = .ok (.goto (-27), 3) := by decide +kernel
theorem dX7_sungTicks_34 : decode cX7_sungTicks 34 = .ok (.iload_n 1, 1) := by decide +kernel
theorem dX7_sungTicks_35 : decode cX7_sungTicks 35 = .ok (.ireturn, 1) := by decide +kernel
theorem dX7_onsets_0 : decode cX7_onsets 0 = .ok (.iconst 0, 1) := by decide +kernel
theorem dX7_onsets_1 : decode cX7_onsets 1 = .ok (.istore_n 1, 1) := by decide +kernel
theorem dX7_onsets_2 : decode cX7_onsets 2 = .ok (.iconst 0, 1) := by decide +kernel
theorem dX7_onsets_3 : decode cX7_onsets 3 = .ok (.istore_n 2, 1) := by decide +kernel
theorem dX7_onsets_4 : decode cX7_onsets 4 = .ok (.iload_n 2, 1) := by decide +kernel
theorem dX7_onsets_5 : decode cX7_onsets 5 = .ok (.sipush 600, 3) := by decide +kernel
theorem dX7_onsets_8 : decode cX7_onsets 8 = .ok (.if_icmp .ge 25, 3) := by decide +kernel
theorem dX7_onsets_11 : decode cX7_onsets 11 = .ok (.iload_n 1, 1) := by decide +kernel
theorem dX7_onsets_12 : decode cX7_onsets 12 = .ok (.aload_n 0, 1) := by decide +kernel
theorem dX7_onsets_13 : decode cX7_onsets 13 = .ok (.iload_n 2, 1) := by decide +kernel
theorem dX7_onsets_14 : decode cX7_onsets 14 = .ok (.invokevirtual 80, 3) := by decide +kernel
theorem dX7_onsets_17 : decode cX7_onsets 17 = .ok (.ifCond .eq 7, 3) := by decide +kernel
theorem dX7_onsets_20 : decode cX7_onsets 20 = .ok (.iconst 1, 1) := by decide +kernel
theorem dX7_onsets_21 : decode cX7_onsets 21 = .ok (.goto 4, 3) := by decide +kernel
theorem dX7_onsets_24 : decode cX7_onsets 24 = .ok (.iconst 0, 1) := by decide +kernel
theorem dX7_onsets_25 : decode cX7_onsets 25 = .ok (.iadd, 1) := by decide +kernel
theorem dX7_onsets_26 : decode cX7_onsets 26 = .ok (.istore_n 1, 1) := by decide +kernel
theorem dX7_onsets_27 : decode cX7_onsets 27 = .ok (.iinc 2 1, 3) := by decide +kernel
theorem dX7_onsets_30 : decode cX7_onsets 30 = .ok (.goto (-26), 3) := by decide +kernel
theorem dX7_onsets_33 : decode cX7_onsets 33 = .ok (.iload_n 1, 1) := by decide +kernel
theorem dX7_onsets_34 : decode cX7_onsets 34 = .ok (.ireturn, 1) := by decide +kernel
theorem dX7_total_0 : decode cX7_total 0 = .ok (.aload_n 0, 1) := by decide +kernel
theorem dX7_total_1 : decode cX7_total 1 = .ok (.invokevirtual 138, 3) := by decide +kernel
theorem dX7_total_4 : decode cX7_total 4 = .ok (.iload_n 1, 1) := by decide +kernel
theorem dX7_total_5 : decode cX7_total 5 = .ok (.tableswitch 96 6 14 #[51, 56, 61, 66, 71, 76, 81, 86, 91], 51) := by decide +kernel
theorem dX7_total_56 : decode cX7_total 56 = .ok (.aload_n 0, 1) := by decide +kernel
theorem dX7_total_57 : decode cX7_total 57 = .ok (.invokevirtual 110, 3) := by decide +kernel
theorem dX7_total_60 : decode cX7_total 60 = .ok (.ireturn, 1) := by decide +kernel
theorem dX7_total_61 : decode cX7_total 61 = .ok (.aload_n 0, 1) := by decide +kernel
theorem dX7_total_62 : decode cX7_total 62 = .ok (.invokevirtual 117, 3) := by decide +kernel
theorem dX7_total_65 : decode cX7_total 65 = .ok (.ireturn, 1) := by decide +kernel
theorem dX7_total_66 : decode cX7_total 66 = .ok (.aload_n 0, 1) := by decide +kernel
theorem dX7_total_67 : decode cX7_total 67 = .ok (.invokevirtual 180, 3) := by decide +kernel
theorem dX7_total_70 : decode cX7_total 70 = .ok (.ireturn, 1) := by decide +kernel
theorem dX7_total_71 : decode cX7_total 71 = .ok (.aload_n 0, 1) := by decide +kernel
theorem dX7_total_72 : decode cX7_total 72 = .ok (.invokevirtual 183, 3) := by decide +kernel
theorem dX7_total_75 : decode cX7_total 75 = .ok (.ireturn, 1) := by decide +kernel
theorem dX7_total_76 : decode cX7_total 76 = .ok (.aload_n 0, 1) := by decide +kernel
theorem dX7_total_77 : decode cX7_total 77 = .ok (.invokevirtual 141, 3) := by decide +kernel
theorem dX7_total_80 : decode cX7_total 80 = .ok (.ireturn, 1) := by decide +kernel
theorem dX7_total_81 : decode cX7_total 81 = .ok (.aload_n 0, 1) := by decide +kernel
theorem dX7_total_82 : decode cX7_total 82 = .ok (.invokevirtual 186, 3) := by decide +kernel
theorem dX7_total_85 : decode cX7_total 85 = .ok (.ireturn, 1) := by decide +kernel
theorem dX7_total_86 : decode cX7_total 86 = .ok (.aload_n 0, 1) := by decide +kernel
theorem dX7_total_87 : decode cX7_total 87 = .ok (.invokevirtual 189, 3) := by decide +kernel
theorem dX7_total_90 : decode cX7_total 90 = .ok (.ireturn, 1) := by decide +kernel
theorem dX7_total_91 : decode cX7_total 91 = .ok (.aload_n 0, 1) := by decide +kernel
theorem dX7_total_92 : decode cX7_total 92 = .ok (.getfield 48, 3) := by decide +kernel
theorem dX7_total_95 : decode cX7_total 95 = .ok (.ireturn, 1) := by decide +kernel
theorem dX7_total_96 : decode cX7_total 96 = .ok (.aload_n 0, 1) := by decide +kernel
theorem dX7_total_97 : decode cX7_total 97 = .ok (.getfield 147, 3) := by decide +kernel
theorem dX7_total_100 : decode cX7_total 100 = .ok (.ireturn, 1) := by decide +kernel
theorem dX7_total_101 : decode cX7_total 101 = .ok (.iload_n 1, 1) := by decide +kernel
theorem dX7_total_102 : decode cX7_total 102 = .ok (.iconst 0, 1) := by decide +kernel
theorem dX7_total_103 : decode cX7_total 103 = .ok (.iconst 5, 1) := by decide +kernel
theorem dX7_total_104 : decode cX7_total 104 = .ok (.invokestatic 44, 3) := by decide +kernel
theorem dX7_total_107 : decode cX7_total 107 = .ok (.ifCond .eq 12, 3) := by decide +kernel
theorem dX7_total_110 : decode cX7_total 110 = .ok (.aload_n 0, 1) := by decide +kernel
theorem dX7_total_111 : decode cX7_total 111 = .ok (.getfield 7, 3) := by decide +kernel
theorem dX7_total_114 : decode cX7_total 114 = .ok (.iload_n 1, 1) := by decide +kernel
theorem dX7_total_115 : decode cX7_total 115 = .ok (.iaload, 1) := by decide +kernel
theorem dX7_total_116 : decode cX7_total 116 = .ok (.goto 5, 3) := by decide +kernel
theorem dX7_total_119 : decode cX7_total 119 = .ok (.bipush (-2), 2) := by decide +kernel
theorem dX7_total_121 : decode cX7_total 121 = .ok (.ireturn, 1) := by decide +kernel
theorem dX7_pointsShifted_0 : decode cX7_pointsShifted 0 = .ok (.aload_n 0, 1) := by decide +kernel
theorem dX7_pointsShifted_1 : decode cX7_pointsShifted 1 = .ok (.iload_n 1, 1) := by decide +kernel
theorem dX7_pointsShifted_2 : decode cX7_pointsShifted 2 = .ok (.iload_n 2, 1) := by decide +kernel
theorem dX7_pointsShifted_3 : decode cX7_pointsShifted 3 = .ok (.invokevirtual 103, 3) := by decide +kernel
theorem dX7_pointsShifted_6 : decode cX7_pointsShifted 6 = .ok (.aload_n 0, 1) := by decide +kernel
theorem dX7_pointsShifted_7 : decode cX7_pointsShifted 7 = .ok (.invokevirtual 107, 3) := by decide +kernel
theorem dX7_pointsShifted_10 : decode cX7_pointsShifted 10 = .ok (.aload_n 0, 1) := by decide +kernel
theorem dX7_pointsShifted_11 : decode cX7_pointsShifted 11 = .ok (.invokevirtual 186, 3) := by decide +kernel
theorem dX7_pointsShifted_14 : decode cX7_pointsShifted 14 = .ok (.ireturn, 1) := by decide +kernel
theorem dX7_ifShifted_0 : decode cX7_ifShifted 0 = .ok (.iload_n 1, 1) := by decide +kernel
theorem dX7_ifShifted_1 : decode cX7_ifShifted 1 = .ok (.bipush (-32), 2) := by decide +kernel
theorem dX7_ifShifted_3 : decode cX7_ifShifted 3 = .ok (.bipush 32, 2) := by decide +kernel
theorem dX7_ifShifted_5 : decode cX7_ifShifted 5 = .ok (.invokestatic 44, 3) := by decide +kernel
theorem dX7_ifShifted_8 : decode cX7_ifShifted 8 = .ok (.ifCond .eq 23, 3) := by decide +kernel
theorem dX7_ifShifted_11 : decode cX7_ifShifted 11 = .ok (.iload_n 2, 1) := by decide +kernel
theorem dX7_ifShifted_12 : decode cX7_ifShifted 12 = .ok (.bipush (-60), 2) := by decide +kernel
theorem dX7_ifShifted_14 : decode cX7_ifShifted 14 = .ok (.bipush 60, 2) := by decide +kernel
theorem dX7_ifShifted_16 : decode cX7_ifShifted 16 = .ok (.invokestatic 44, 3) := by decide +kernel
theorem dX7_ifShifted_19 : decode cX7_ifShifted 19 = .ok (.ifCond .eq 12, 3) := by decide +kernel
theorem dX7_ifShifted_22 : decode cX7_ifShifted 22 = .ok (.aload_n 0, 1) := by decide +kernel
theorem dX7_ifShifted_23 : decode cX7_ifShifted 23 = .ok (.iload_n 1, 1) := by decide +kernel
theorem dX7_ifShifted_24 : decode cX7_ifShifted 24 = .ok (.iload_n 2, 1) := by decide +kernel
theorem dX7_ifShifted_25 : decode cX7_ifShifted 25 = .ok (.invokevirtual 192, 3) := by decide +kernel
theorem dX7_ifShifted_28 : decode cX7_ifShifted 28 = .ok (.goto 5, 3) := by decide +kernel
theorem dX7_ifShifted_31 : decode cX7_ifShifted 31 = .ok (.bipush (-2), 2) := by decide +kernel
theorem dX7_ifShifted_33 : decode cX7_ifShifted 33 = .ok (.ireturn, 1) := by decide +kernel
theorem dX7_bestShift_0 : decode cX7_bestShift 0 = .ok (.iconst 0, 1) := by decide +kernel
theorem dX7_bestShift_1 : decode cX7_bestShift 1 = .ok (.istore_n 1, 1) := by decide +kernel
theorem dX7_bestShift_2 : decode cX7_bestShift 2 = .ok (.aload_n 0, 1) := by decide +kernel
theorem dX7_bestShift_3 : decode cX7_bestShift 3 = .ok (.iconst 0, 1) := by decide +kernel
theorem dX7_bestShift_4 : decode cX7_bestShift 4 = .ok (.iconst 0, 1) := by decide +kernel
theorem dX7_bestShift_5 : decode cX7_bestShift 5 = .ok (.invokevirtual 192, 3) := by decide +kernel
theorem dX7_bestShift_8 : decode cX7_bestShift 8 = .ok (.istore_n 2, 1) := by decide +kernel
theorem dX7_bestShift_9 : decode cX7_bestShift 9 = .ok (.iconst 2, 1) := by decide +kernel
theorem dX7_bestShift_10 : decode cX7_bestShift 10 = .ok (.istore_n 3, 1) := by decide +kernel
theorem dX7_bestShift_11 : decode cX7_bestShift 11 = .ok (.iload_n 3, 1) := by decide +kernel
theorem dX7_bestShift_12 : decode cX7_bestShift 12 = .ok (.bipush 66, 2) := by decide +kernel
theorem dX7_bestShift_14 : decode cX7_bestShift 14 = .ok (.if_icmp .ge 62, 3) := by decide +kernel
theorem dX7_bestShift_17 : decode cX7_bestShift 17 = .ok (.iload_n 3, 1) := by decide +kernel
theorem dX7_bestShift_18 : decode cX7_bestShift 18 = .ok (.iconst 2, 1) := by decide +kernel
theorem dX7_bestShift_19 : decode cX7_bestShift 19 = .ok (.irem, 1) := by decide +kernel
theorem dX7_bestShift_20 : decode cX7_bestShift 20 = .ok (.ifCond .ne 10, 3) := by decide +kernel
theorem dX7_bestShift_23 : decode cX7_bestShift 23 = .ok (.iload_n 3, 1) := by decide +kernel
theorem dX7_bestShift_24 : decode cX7_bestShift 24 = .ok (.iconst 2, 1) := by decide +kernel
theorem dX7_bestShift_25 : decode cX7_bestShift 25 = .ok (.idiv, 1) := by decide +kernel
theorem dX7_bestShift_26 : decode cX7_bestShift 26 = .ok (.ineg, 1) := by decide +kernel
theorem dX7_bestShift_27 : decode cX7_bestShift 27 = .ok (.goto 6, 3) := by decide +kernel
theorem dX7_bestShift_30 : decode cX7_bestShift 30 = .ok (.iload_n 3, 1) := by decide +kernel
theorem dX7_bestShift_31 : decode cX7_bestShift 31 = .ok (.iconst 2, 1) := by decide +kernel
theorem dX7_bestShift_32 : decode cX7_bestShift 32 = .ok (.idiv, 1) := by decide +kernel
theorem dX7_bestShift_33 : decode cX7_bestShift 33 = .ok (.istore 4, 2) := by decide +kernel
theorem dX7_bestShift_35 : decode cX7_bestShift 35 = .ok (.aload_n 0, 1) := by decide +kernel
theorem dX7_bestShift_36 : decode cX7_bestShift 36 = .ok (.iload 4, 2) := by decide +kernel
theorem dX7_bestShift_38 : decode cX7_bestShift 38 = .ok (.iconst 0, 1) := by decide +kernel
theorem dX7_bestShift_39 : decode cX7_bestShift 39 = .ok (.invokevirtual 192, 3) := by decide +kernel
theorem dX7_bestShift_42 : decode cX7_bestShift 42 = .ok (.istore 5, 2) := by decide +kernel
theorem dX7_bestShift_44 : decode cX7_bestShift 44 = .ok (.iload 5, 2) := by decide +kernel
theorem dX7_bestShift_46 : decode cX7_bestShift 46 = .ok (.iload_n 2, 1) := by decide +kernel
theorem dX7_bestShift_47 : decode cX7_bestShift 47 = .ok (.if_icmp .le 8, 3) := by decide +kernel
theorem dX7_bestShift_50 : decode cX7_bestShift 50 = .ok (.iload 4, 2) := by decide +kernel
theorem dX7_bestShift_52 : decode cX7_bestShift 52 = .ok (.goto 4, 3) := by decide +kernel
theorem dX7_bestShift_55 : decode cX7_bestShift 55 = .ok (.iload_n 1, 1) := by decide +kernel
theorem dX7_bestShift_56 : decode cX7_bestShift 56 = .ok (.istore_n 1, 1) := by decide +kernel
theorem dX7_bestShift_57 : decode cX7_bestShift 57 = .ok (.iload 5, 2) := by decide +kernel
theorem dX7_bestShift_59 : decode cX7_bestShift 59 = .ok (.iload_n 2, 1) := by decide +kernel
theorem dX7_bestShift_60 : decode cX7_bestShift 60 = .ok (.if_icmp .le 8, 3) := by decide +kernel
theorem dX7_bestShift_63 : decode cX7_bestShift 63 = .ok (.iload 5, 2) := by decide +kernel
theorem dX7_bestShift_65 : decode cX7_bestShift 65 = .ok (.goto 4, 3) := by decide +kernel
theorem dX7_bestShift_68 : decode cX7_bestShift 68 = .ok (.iload_n 2, 1) := by decide +kernel
theorem dX7_bestShift_69 : decode cX7_bestShift 69 = .ok (.istore_n 2, 1) := by decide +kernel
theorem dX7_bestShift_70 : decode cX7_bestShift 70 = .ok (.iinc 3 1, 3) := by decide +kernel
theorem dX7_bestShift_73 : decode cX7_bestShift 73 = .ok (.goto (-62), 3) := by decide +kernel
theorem dX7_bestShift_76 : decode cX7_bestShift 76 = .ok (.iload_n 1, 1) := by decide +kernel
theorem dX7_bestShift_77 : decode cX7_bestShift 77 = .ok (.bipush 32, 2) := by decide +kernel
theorem dX7_bestShift_79 : decode cX7_bestShift 79 = .ok (.iadd, 1) := by decide +kernel
theorem dX7_bestShift_80 : decode cX7_bestShift 80 = .ok (.ireturn, 1) := by decide +kernel
theorem dX7_ifSet_0 : decode cX7_ifSet 0 = .ok (.iload_n 1, 1) := by decide +kernel
theorem dX7_ifSet_1 : decode cX7_ifSet 1 = .ok (.iload_n 2, 1) := by decide +kernel
theorem dX7_ifSet_2 : decode cX7_ifSet 2 = .ok (.invokestatic 135, 3) := by decide +kernel
theorem dX7_ifSet_5 : decode cX7_ifSet 5 = .ok (.istore_n 3, 1) := by decide +kernel
theorem dX7_ifSet_6 : decode cX7_ifSet 6 = .ok (.iload_n 3, 1) := by decide +kernel
theorem dX7_ifSet_7 : decode cX7_ifSet 7 = .ok (.ifCond .ge 5, 3) := by decide +kernel
theorem dX7_ifSet_10 : decode cX7_ifSet 10 = .ok (.iload_n 3, 1) := by decide +kernel
theorem dX7_ifSet_11 : decode cX7_ifSet 11 = .ok (.ireturn, 1) := by decide +kernel
theorem dX7_ifSet_12 : decode cX7_ifSet 12 = .ok (.aload_n 0, 1) := by decide +kernel
theorem dX7_ifSet_13 : decode cX7_ifSet 13 = .ok (.getfield 7, 3) := by decide +kernel
theorem dX7_ifSet_16 : decode cX7_ifSet 16 = .ok (.iload_n 1, 1) := by decide +kernel
theorem dX7_ifSet_17 : decode cX7_ifSet 17 = .ok (.iaload, 1) := by decide +kernel
theorem dX7_ifSet_18 : decode cX7_ifSet 18 = .ok (.istore 4, 2) := by decide +kernel
theorem dX7_ifSet_20 : decode cX7_ifSet 20 = .ok (.aload_n 0, 1) := by decide +kernel
theorem dX7_ifSet_21 : decode cX7_ifSet 21 = .ok (.getfield 7, 3) := by decide +kernel
theorem dX7_ifSet_24 : decode cX7_ifSet 24 = .ok (.iload_n 1, 1) := by decide +kernel
theorem dX7_ifSet_25 : decode cX7_ifSet 25 = .ok (.iload_n 2, 1) := by decide +kernel
theorem dX7_ifSet_26 : decode cX7_ifSet 26 = .ok (.iastore, 1) := by decide +kernel
theorem dX7_ifSet_27 : decode cX7_ifSet 27 = .ok (.aload_n 0, 1) := by decide +kernel
theorem dX7_ifSet_28 : decode cX7_ifSet 28 = .ok (.iconst 0, 1) := by decide +kernel
theorem dX7_ifSet_29 : decode cX7_ifSet 29 = .ok (.iconst 0, 1) := by decide +kernel
theorem dX7_ifSet_30 : decode cX7_ifSet 30 = .ok (.invokevirtual 192, 3) := by decide +kernel
theorem dX7_ifSet_33 : decode cX7_ifSet 33 = .ok (.istore 5, 2) := by decide +kernel
theorem dX7_ifSet_35 : decode cX7_ifSet 35 = .ok (.aload_n 0, 1) := by decide +kernel
theorem dX7_ifSet_36 : decode cX7_ifSet 36 = .ok (.getfield 7, 3) := by decide +kernel
theorem dX7_ifSet_39 : decode cX7_ifSet 39 = .ok (.iload_n 1, 1) := by decide +kernel
theorem dX7_ifSet_40 : decode cX7_ifSet 40 = .ok (.iload 4, 2) := by decide +kernel
theorem dX7_ifSet_42 : decode cX7_ifSet 42 = .ok (.iastore, 1) := by decide +kernel
theorem dX7_ifSet_43 : decode cX7_ifSet 43 = .ok (.iload 5, 2) := by decide +kernel
theorem dX7_ifSet_45 : decode cX7_ifSet 45 = .ok (.ireturn, 1) := by decide +kernel
theorem dX7_worst_0 : decode cX7_worst 0 = .ok (.aload_n 0, 1) := by decide +kernel
theorem dX7_worst_1 : decode cX7_worst 1 = .ok (.invokevirtual 138, 3) := by decide +kernel
theorem dX7_worst_4 : decode cX7_worst 4 = .ok (.bipush (-5), 2) := by decide +kernel
theorem dX7_worst_6 : decode cX7_worst 6 = .ok (.istore_n 1, 1) := by decide +kernel
theorem dX7_worst_7 : decode cX7_worst 7 = .ok (.iconst 0, 1) := by decide +kernel
theorem dX7_worst_8 : decode cX7_worst 8 = .ok (.istore_n 2, 1) := by decide +kernel
theorem dX7_worst_9 : decode cX7_worst 9 = .ok (.iload_n 2, 1) := by decide +kernel
theorem dX7_worst_10 : decode cX7_worst 10 = .ok (.aload_n 0, 1) := by decide +kernel
theorem dX7_worst_11 : decode cX7_worst 11 = .ok (.invokevirtual 110, 3) := by decide +kernel
theorem dX7_worst_14 : decode cX7_worst 14 = .ok (.if_icmp .ge 36, 3) := by decide +kernel
theorem dX7_worst_17 : decode cX7_worst 17 = .ok (.iload_n 1, 1) := by decide +kernel
theorem dX7_worst_18 : decode cX7_worst 18 = .ok (.bipush (-5), 2) := by decide +kernel
theorem dX7_worst_20 : decode cX7_worst 20 = .ok (.if_icmp .eq 18, 3) := by decide +kernel
theorem dX7_worst_23 : decode cX7_worst 23 = .ok (.aload_n 0, 1) := by decide +kernel
theorem dX7_worst_24 : decode cX7_worst 24 = .ok (.iload_n 2, 1) := by decide +kernel
theorem dX7_worst_25 : decode cX7_worst 25 = .ok (.iconst 3, 1) := by decide +kernel
theorem dX7_worst_26 : decode cX7_worst 26 = .ok (.invokevirtual 114, 3) := by decide +kernel
theorem dX7_worst_29 : decode cX7_worst 29 = .ok (.aload_n 0, 1) := by decide +kernel
theorem dX7_worst_30 : decode cX7_worst 30 = .ok (.iload_n 1, 1) := by decide +kernel
theorem dX7_worst_31 : decode cX7_worst 31 = .ok (.iconst 3, 1) := by decide +kernel
theorem dX7_worst_32 : decode cX7_worst 32 = .ok (.invokevirtual 114, 3) := by decide +kernel
theorem dX7_worst_35 : decode cX7_worst 35 = .ok (.if_icmp .ge 7, 3) := by decide +kernel
theorem dX7_worst_38 : decode cX7_worst 38 = .ok (.iload_n 2, 1) := by decide +kernel
theorem dX7_worst_39 : decode cX7_worst 39 = .ok (.goto 4, 3) := by decide +kernel
theorem dX7_worst_42 : decode cX7_worst 42 = .ok (.iload_n 1, 1) := by decide +kernel
theorem dX7_worst_43 : decode cX7_worst 43 = .ok (.istore_n 1, 1) := by decide +kernel
theorem dX7_worst_44 : decode cX7_worst 44 = .ok (.iinc 2 1, 3) := by decide +kernel
theorem dX7_worst_47 : decode cX7_worst 47 = .ok (.goto (-38), 3) := by decide +kernel
theorem dX7_worst_50 : decode cX7_worst 50 = .ok (.iload_n 1, 1) := by decide +kernel
theorem dX7_worst_51 : decode cX7_worst 51 = .ok (.ireturn, 1) := by decide +kernel
theorem dL_law_0 : decode cL_law 0 = .ok (.new 7, 3) := by decide +kernel
theorem dL_law_3 : decode cL_law 3 = .ok (.dup, 1) := by decide +kernel
theorem dL_law_4 : decode cL_law 4 = .ok (.invokespecial 9, 3) := by decide +kernel
theorem dL_law_7 : decode cL_law 7 = .ok (.astore_n 1, 1) := by decide +kernel
theorem dL_law_8 : decode cL_law 8 = .ok (.new 10, 3) := by decide +kernel
theorem dL_law_11 : decode cL_law 11 = .ok (.dup, 1) := by decide +kernel
theorem dL_law_12 : decode cL_law 12 = .ok (.invokespecial 12, 3) := by decide +kernel
theorem dL_law_15 : decode cL_law 15 = .ok (.astore_n 2, 1) := by decide +kernel
theorem dL_law_16 : decode cL_law 16 = .ok (.iconst 0, 1) := by decide +kernel
theorem dL_law_17 : decode cL_law 17 = .ok (.istore_n 3, 1) := by decide +kernel
theorem dL_law_18 : decode cL_law 18 = .ok (.iload_n 3, 1) := by decide +kernel
theorem dL_law_19 : decode cL_law 19 = .ok (.aload_n 0, 1) := by decide +kernel
theorem dL_law_20 : decode cL_law 20 = .ok (.arraylength, 1) := by decide +kernel
theorem dL_law_21 : decode cL_law 21 = .ok (.bipush 6, 2) := by decide +kernel
theorem dL_law_23 : decode cL_law 23 = .ok (.isub, 1) := by decide +kernel
theorem dL_law_24 : decode cL_law 24 = .ok (.if_icmp .gt 712, 3) := by decide +kernel
theorem dL_law_27 : decode cL_law 27 = .ok (.aload_n 0, 1) := by decide +kernel
theorem dL_law_28 : decode cL_law 28 = .ok (.iload_n 3, 1) := by decide +kernel
theorem dL_law_29 : decode cL_law 29 = .ok (.iaload, 1) := by decide +kernel
theorem dL_law_30 : decode cL_law 30 = .ok (.bipush 31, 2) := by decide +kernel
theorem dL_law_32 : decode cL_law 32 = .ok (.iand, 1) := by decide +kernel
theorem dL_law_33 : decode cL_law 33 = .ok (.tableswitch 697 0 21 #[103, 182, 195, 208, 241, 284, 317, 360, 385, 398, 411, 424, 437, 470, 493, 516, 549, 582, 605, 638, 651, 684], 103) := by decide +kernel
theorem dL_law_136 : decode cL_law 136 = .ok (.aload_n 1, 1) := by decide +kernel
theorem dL_law_137 : decode cL_law 137 = .ok (.aload_n 0, 1) := by decide +kernel
theorem dL_law_138 : decode cL_law 138 = .ok (.iload_n 3, 1) := by decide +kernel
theorem dL_law_139 : decode cL_law 139 = .ok (.iconst 1, 1) := by decide +kernel
theorem dL_law_140 : decode cL_law 140 = .ok (.iadd, 1) := by decide +kernel
theorem dL_law_141 : decode cL_law 141 = .ok (.iaload, 1) := by decide +kernel
theorem dL_law_142 : decode cL_law 142 = .ok (.aload_n 0, 1) := by decide +kernel
theorem dL_law_143 : decode cL_law 143 = .ok (.iload_n 3, 1) := by decide +kernel
theorem dL_law_144 : decode cL_law 144 = .ok (.iconst 2, 1) := by decide +kernel
theorem dL_law_145 : decode cL_law 145 = .ok (.iadd, 1) := by decide +kernel
theorem dL_law_146 : decode cL_law 146 = .ok (.iaload, 1) := by decide +kernel
theorem dL_law_147 : decode cL_law 147 = .ok (.aload_n 0, 1) := by decide +kernel
theorem dL_law_148 : decode cL_law 148 = .ok (.iload_n 3, 1) := by decide +kernel
theorem dL_law_149 : decode cL_law 149 = .ok (.iconst 3, 1) := by decide +kernel
theorem dL_law_150 : decode cL_law 150 = .ok (.iadd, 1) := by decide +kernel
theorem dL_law_151 : decode cL_law 151 = .ok (.iaload, 1) := by decide +kernel
theorem dL_law_152 : decode cL_law 152 = .ok (.aload_n 0, 1) := by decide +kernel
theorem dL_law_153 : decode cL_law 153 = .ok (.iload_n 3, 1) := by decide +kernel
theorem dL_law_154 : decode cL_law 154 = .ok (.iconst 4, 1) := by decide +kernel
theorem dL_law_155 : decode cL_law 155 = .ok (.iadd, 1) := by decide +kernel
theorem dL_law_156 : decode cL_law 156 = .ok (.iaload, 1) := by decide +kernel
theorem dL_law_157 : decode cL_law 157 = .ok (.aload_n 0, 1) := by decide +kernel
theorem dL_law_158 : decode cL_law 158 = .ok (.iload_n 3, 1) := by decide +kernel
theorem dL_law_159 : decode cL_law 159 = .ok (.iconst 5, 1) := by decide +kernel
theorem dL_law_160 : decode cL_law 160 = .ok (.iadd, 1) := by decide +kernel
theorem dL_law_161 : decode cL_law 161 = .ok (.iaload, 1) := by decide +kernel
theorem dL_law_162 : decode cL_law 162 = .ok (.ifCond .eq 7, 3) := by decide +kernel
theorem dL_law_165 : decode cL_law 165 = .ok (.iconst 1, 1) := by decide +kernel
theorem dL_law_166 : decode cL_law 166 = .ok (.goto 4, 3) := by decide +kernel
theorem dL_law_169 : decode cL_law 169 = .ok (.iconst 0, 1) := by decide +kernel
theorem dL_law_170 : decode cL_law 170 = .ok (.invokevirtual 13, 3) := by decide +kernel
theorem dL_law_173 : decode cL_law 173 = .ok (.aload_n 2, 1) := by decide +kernel
theorem dL_law_174 : decode cL_law 174 = .ok (.aload_n 0, 1) := by decide +kernel
theorem dL_law_175 : decode cL_law 175 = .ok (.iload_n 3, 1) := by decide +kernel
theorem dL_law_176 : decode cL_law 176 = .ok (.iconst 1, 1) := by decide +kernel
theorem dL_law_177 : decode cL_law 177 = .ok (.iadd, 1) := by decide +kernel
theorem dL_law_178 : decode cL_law 178 = .ok (.iaload, 1) := by decide +kernel
theorem dL_law_179 : decode cL_law 179 = .ok (.aload_n 0, 1) := by decide +kernel
theorem dL_law_180 : decode cL_law 180 = .ok (.iload_n 3, 1) := by decide +kernel
theorem dL_law_181 : decode cL_law 181 = .ok (.iconst 2, 1) := by decide +kernel
theorem dL_law_182 : decode cL_law 182 = .ok (.iadd, 1) := by decide +kernel
theorem dL_law_183 : decode cL_law 183 = .ok (.iaload, 1) := by decide +kernel
theorem dL_law_184 : decode cL_law 184 = .ok (.aload_n 0, 1) := by decide +kernel
theorem dL_law_185 : decode cL_law 185 = .ok (.iload_n 3, 1) := by decide +kernel
theorem dL_law_186 : decode cL_law 186 = .ok (.iconst 3, 1) := by decide +kernel
theorem dL_law_187 : decode cL_law 187 = .ok (.iadd, 1) := by decide +kernel
theorem dL_law_188 : decode cL_law 188 = .ok (.iaload, 1) := by decide +kernel
theorem dL_law_189 : decode cL_law 189 = .ok (.aload_n 0, 1) := by decide +kernel
theorem dL_law_190 : decode cL_law 190 = .ok (.iload_n 3, 1) := by decide +kernel
theorem dL_law_191 : decode cL_law 191 = .ok (.iconst 4, 1) := by decide +kernel
theorem dL_law_192 : decode cL_law 192 = .ok (.iadd, 1) := by decide +kernel
theorem dL_law_193 : decode cL_law 193 = .ok (.iaload, 1) := by decide +kernel
theorem dL_law_194 : decode cL_law 194 = .ok (.aload_n 0, 1) := by decide +kernel
theorem dL_law_195 : decode cL_law 195 = .ok (.iload_n 3, 1) := by decide +kernel
theorem dL_law_196 : decode cL_law 196 = .ok (.iconst 5, 1) := by decide +kernel
theorem dL_law_197 : decode cL_law 197 = .ok (.iadd, 1) := by decide +kernel
theorem dL_law_198 : decode cL_law 198 = .ok (.iaload, 1) := by decide +kernel
theorem dL_law_199 : decode cL_law 199 = .ok (.ifCond .eq 7, 3) := by decide +kernel
theorem dL_law_202 : decode cL_law 202 = .ok (.iconst 1, 1) := by decide +kernel
theorem dL_law_203 : decode cL_law 203 = .ok (.goto 4, 3) := by decide +kernel
theorem dL_law_206 : decode cL_law 206 = .ok (.iconst 0, 1) := by decide +kernel
theorem dL_law_207 : decode cL_law 207 = .ok (.invokevirtual 17, 3) := by decide +kernel
theorem dL_law_210 : decode cL_law 210 = .ok (.if_icmp .eq 520, 3) := by decide +kernel
theorem dL_law_213 : decode cL_law 213 = .ok (.iconst 0, 1) := by decide +kernel
theorem dL_law_214 : decode cL_law 214 = .ok (.ireturn, 1) := by decide +kernel
theorem dL_law_215 : decode cL_law 215 = .ok (.aload_n 1, 1) := by decide +kernel
theorem dL_law_216 : decode cL_law 216 = .ok (.invokevirtual 18, 3) := by decide +kernel
theorem dL_law_219 : decode cL_law 219 = .ok (.aload_n 2, 1) := by decide +kernel
theorem dL_law_220 : decode cL_law 220 = .ok (.invokevirtual 22, 3) := by decide +kernel
theorem dL_law_223 : decode cL_law 223 = .ok (.if_icmp .eq 507, 3) := by decide +kernel
theorem dL_law_226 : decode cL_law 226 = .ok (.iconst 0, 1) := by decide +kernel
theorem dL_law_227 : decode cL_law 227 = .ok (.ireturn, 1) := by decide +kernel
theorem dL_law_228 : decode cL_law 228 = .ok (.aload_n 1, 1) := by decide +kernel
theorem dL_law_229 : decode cL_law 229 = .ok (.invokevirtual 23, 3) := by decide +kernel
theorem dL_law_232 : decode cL_law 232 = .ok (.aload_n 2, 1) := by decide +kernel
theorem dL_law_233 : decode cL_law 233 = .ok (.invokevirtual 26, 3) := by decide +kernel
theorem dL_law_236 : decode cL_law 236 = .ok (.if_icmp .eq 494, 3) := by decide +kernel
theorem dL_law_239 : decode cL_law 239 = .ok (.iconst 0, 1) := by decide +kernel
theorem dL_law_240 : decode cL_law 240 = .ok (.ireturn, 1) := by decide +kernel
theorem dL_law_241 : decode cL_law 241 = .ok (.aload_n 1, 1) := by decide +kernel
theorem dL_law_242 : decode cL_law 242 = .ok (.aload_n 0, 1) := by decide +kernel
theorem dL_law_243 : decode cL_law 243 = .ok (.iload_n 3, 1) := by decide +kernel
theorem dL_law_244 : decode cL_law 244 = .ok (.iconst 1, 1) := by decide +kernel
theorem dL_law_245 : decode cL_law 245 = .ok (.iadd, 1) := by decide +kernel
theorem dL_law_246 : decode cL_law 246 = .ok (.iaload, 1) := by decide +kernel
theorem dL_law_247 : decode cL_law 247 = .ok (.aload_n 0, 1) := by decide +kernel
theorem dL_law_248 : decode cL_law 248 = .ok (.iload_n 3, 1) := by decide +kernel
theorem dL_law_249 : decode cL_law 249 = .ok (.iconst 2, 1) := by decide +kernel
theorem dL_law_250 : decode cL_law 250 = .ok (.iadd, 1) := by decide +kernel
theorem dL_law_251 : decode cL_law 251 = .ok (.iaload, 1) := by decide +kernel
theorem dL_law_252 : decode cL_law 252 = .ok (.invokevirtual 27, 3) := by decide +kernel
theorem dL_law_255 : decode cL_law 255 = .ok (.aload_n 2, 1) := by decide +kernel
theorem dL_law_256 : decode cL_law 256 = .ok (.aload_n 0, 1) := by decide +kernel
theorem dL_law_257 : decode cL_law 257 = .ok (.iload_n 3, 1) := by decide +kernel
theorem dL_law_258 : decode cL_law 258 = .ok (.iconst 1, 1) := by decide +kernel
theorem dL_law_259 : decode cL_law 259 = .ok (.iadd, 1) := by decide +kernel
theorem dL_law_260 : decode cL_law 260 = .ok (.iaload, 1) := by decide +kernel
theorem dL_law_261 : decode cL_law 261 = .ok (.aload_n 0, 1) := by decide +kernel
theorem dL_law_262 : decode cL_law 262 = .ok (.iload_n 3, 1) := by decide +kernel
theorem dL_law_263 : decode cL_law 263 = .ok (.iconst 2, 1) := by decide +kernel
theorem dL_law_264 : decode cL_law 264 = .ok (.iadd, 1) := by decide +kernel
theorem dL_law_265 : decode cL_law 265 = .ok (.iaload, 1) := by decide +kernel
theorem dL_law_266 : decode cL_law 266 = .ok (.invokevirtual 31, 3) := by decide +kernel
theorem dL_law_269 : decode cL_law 269 = .ok (.if_icmp .eq 461, 3) := by decide +kernel
theorem dL_law_272 : decode cL_law 272 = .ok (.iconst 0, 1) := by decide +kernel
theorem dL_law_273 : decode cL_law 273 = .ok (.ireturn, 1) := by decide +kernel
theorem dL_law_274 : decode cL_law 274 = .ok (.aload_n 1, 1) := by decide +kernel
theorem dL_law_275 : decode cL_law 275 = .ok (.aload_n 0, 1) := by decide +kernel
theorem dL_law_276 : decode cL_law 276 = .ok (.iload_n 3, 1) := by decide +kernel
theorem dL_law_277 : decode cL_law 277 = .ok (.iconst 1, 1) := by decide +kernel
theorem dL_law_278 : decode cL_law 278 = .ok (.iadd, 1) := by decide +kernel
theorem dL_law_279 : decode cL_law 279 = .ok (.iaload, 1) := by decide +kernel
theorem dL_law_280 : decode cL_law 280 = .ok (.aload_n 0, 1) := by decide +kernel
theorem dL_law_281 : decode cL_law 281 = .ok (.iload_n 3, 1) := by decide +kernel
theorem dL_law_282 : decode cL_law 282 = .ok (.iconst 2, 1) := by decide +kernel
theorem dL_law_283 : decode cL_law 283 = .ok (.iadd, 1) := by decide +kernel
theorem dL_law_284 : decode cL_law 284 = .ok (.iaload, 1) := by decide +kernel
theorem dL_law_285 : decode cL_law 285 = .ok (.aload_n 0, 1) := by decide +kernel
theorem dL_law_286 : decode cL_law 286 = .ok (.iload_n 3, 1) := by decide +kernel
theorem dL_law_287 : decode cL_law 287 = .ok (.iconst 3, 1) := by decide +kernel
theorem dL_law_288 : decode cL_law 288 = .ok (.iadd, 1) := by decide +kernel
theorem dL_law_289 : decode cL_law 289 = .ok (.iaload, 1) := by decide +kernel
theorem dL_law_290 : decode cL_law 290 = .ok (.invokevirtual 32, 3) := by decide +kernel
theorem dL_law_293 : decode cL_law 293 = .ok (.aload_n 2, 1) := by decide +kernel
theorem dL_law_294 : decode cL_law 294 = .ok (.aload_n 0, 1) := by decide +kernel
theorem dL_law_295 : decode cL_law 295 = .ok (.iload_n 3, 1) := by decide +kernel
theorem dL_law_296 : decode cL_law 296 = .ok (.iconst 1, 1) := by decide +kernel
theorem dL_law_297 : decode cL_law 297 = .ok (.iadd, 1) := by decide +kernel
theorem dL_law_298 : decode cL_law 298 = .ok (.iaload, 1) := by decide +kernel
theorem dL_law_299 : decode cL_law 299 = .ok (.aload_n 0, 1) := by decide +kernel
theorem dL_law_300 : decode cL_law 300 = .ok (.iload_n 3, 1) := by decide +kernel
theorem dL_law_301 : decode cL_law 301 = .ok (.iconst 2, 1) := by decide +kernel
theorem dL_law_302 : decode cL_law 302 = .ok (.iadd, 1) := by decide +kernel
theorem dL_law_303 : decode cL_law 303 = .ok (.iaload, 1) := by decide +kernel
theorem dL_law_304 : decode cL_law 304 = .ok (.aload_n 0, 1) := by decide +kernel
theorem dL_law_305 : decode cL_law 305 = .ok (.iload_n 3, 1) := by decide +kernel
theorem dL_law_306 : decode cL_law 306 = .ok (.iconst 3, 1) := by decide +kernel
theorem dL_law_307 : decode cL_law 307 = .ok (.iadd, 1) := by decide +kernel
theorem dL_law_308 : decode cL_law 308 = .ok (.iaload, 1) := by decide +kernel
theorem dL_law_309 : decode cL_law 309 = .ok (.invokevirtual 36, 3) := by decide +kernel
theorem dL_law_312 : decode cL_law 312 = .ok (.if_icmp .eq 418, 3) := by decide +kernel
theorem dL_law_315 : decode cL_law 315 = .ok (.iconst 0, 1) := by decide +kernel
theorem dL_law_316 : decode cL_law 316 = .ok (.ireturn, 1) := by decide +kernel
theorem dL_law_317 : decode cL_law 317 = .ok (.aload_n 1, 1) := by decide +kernel
theorem dL_law_318 : decode cL_law 318 = .ok (.aload_n 0, 1) := by decide +kernel
theorem dL_law_319 : decode cL_law 319 = .ok (.iload_n 3, 1) := by decide +kernel
theorem dL_law_320 : decode cL_law 320 = .ok (.iconst 1, 1) := by decide +kernel
theorem dL_law_321 : decode cL_law 321 = .ok (.iadd, 1) := by decide +kernel
theorem dL_law_322 : decode cL_law 322 = .ok (.iaload, 1) := by decide +kernel
theorem dL_law_323 : decode cL_law 323 = .ok (.aload_n 0, 1) := by decide +kernel
theorem dL_law_324 : decode cL_law 324 = .ok (.iload_n 3, 1) := by decide +kernel
theorem dL_law_325 : decode cL_law 325 = .ok (.iconst 2, 1) := by decide +kernel
theorem dL_law_326 : decode cL_law 326 = .ok (.iadd, 1) := by decide +kernel
theorem dL_law_327 : decode cL_law 327 = .ok (.iaload, 1) := by decide +kernel
theorem dL_law_328 : decode cL_law 328 = .ok (.invokevirtual 37, 3) := by decide +kernel
theorem dL_law_331 : decode cL_law 331 = .ok (.aload_n 2, 1) := by decide +kernel
theorem dL_law_332 : decode cL_law 332 = .ok (.aload_n 0, 1) := by decide +kernel
theorem dL_law_333 : decode cL_law 333 = .ok (.iload_n 3, 1) := by decide +kernel
theorem dL_law_334 : decode cL_law 334 = .ok (.iconst 1, 1) := by decide +kernel
theorem dL_law_335 : decode cL_law 335 = .ok (.iadd, 1) := by decide +kernel
theorem dL_law_336 : decode cL_law 336 = .ok (.iaload, 1) := by decide +kernel
theorem dL_law_337 : decode cL_law 337 = .ok (.aload_n 0, 1) := by decide +kernel
theorem dL_law_338 : decode cL_law 338 = .ok (.iload_n 3, 1) := by decide +kernel
theorem dL_law_339 : decode cL_law 339 = .ok (.iconst 2, 1) := by decide +kernel
theorem dL_law_340 : decode cL_law 340 = .ok (.iadd, 1) := by decide +kernel
theorem dL_law_341 : decode cL_law 341 = .ok (.iaload, 1) := by decide +kernel
theorem dL_law_342 : decode cL_law 342 = .ok (.invokevirtual 40, 3) := by decide +kernel
theorem dL_law_345 : decode cL_law 345 = .ok (.if_icmp .eq 385, 3) := by decide +kernel
theorem dL_law_348 : decode cL_law 348 = .ok (.iconst 0, 1) := by decide +kernel
theorem dL_law_349 : decode cL_law 349 = .ok (.ireturn, 1) := by decide +kernel
theorem dL_law_350 : decode cL_law 350 = .ok (.aload_n 1, 1) := by decide +kernel
theorem dL_law_351 : decode cL_law 351 = .ok (.aload_n 0, 1) := by decide +kernel
theorem dL_law_352 : decode cL_law 352 = .ok (.iload_n 3, 1) := by decide +kernel
theorem dL_law_353 : decode cL_law 353 = .ok (.iconst 1, 1) := by decide +kernel
theorem dL_law_354 : decode cL_law 354 = .ok (.iadd, 1) := by decide +kernel
theorem dL_law_355 : decode cL_law 355 = .ok (.iaload, 1) := by decide +kernel
theorem dL_law_356 : decode cL_law 356 = .ok (.aload_n 0, 1) := by decide +kernel
theorem dL_law_357 : decode cL_law 357 = .ok (.iload_n 3, 1) := by decide +kernel
theorem dL_law_358 : decode cL_law 358 = .ok (.iconst 2, 1) := by decide +kernel
theorem dL_law_359 : decode cL_law 359 = .ok (.iadd, 1) := by decide +kernel
theorem dL_law_360 : decode cL_law 360 = .ok (.iaload, 1) := by decide +kernel
theorem dL_law_361 : decode cL_law 361 = .ok (.aload_n 0, 1) := by decide +kernel
theorem dL_law_362 : decode cL_law 362 = .ok (.iload_n 3, 1) := by decide +kernel
theorem dL_law_363 : decode cL_law 363 = .ok (.iconst 3, 1) := by decide +kernel
theorem dL_law_364 : decode cL_law 364 = .ok (.iadd, 1) := by decide +kernel
theorem dL_law_365 : decode cL_law 365 = .ok (.iaload, 1) := by decide +kernel
theorem dL_law_366 : decode cL_law 366 = .ok (.invokevirtual 41, 3) := by decide +kernel
theorem dL_law_369 : decode cL_law 369 = .ok (.aload_n 2, 1) := by decide +kernel
theorem dL_law_370 : decode cL_law 370 = .ok (.aload_n 0, 1) := by decide +kernel
theorem dL_law_371 : decode cL_law 371 = .ok (.iload_n 3, 1) := by decide +kernel
theorem dL_law_372 : decode cL_law 372 = .ok (.iconst 1, 1) := by decide +kernel
theorem dL_law_373 : decode cL_law 373 = .ok (.iadd, 1) := by decide +kernel
theorem dL_law_374 : decode cL_law 374 = .ok (.iaload, 1) := by decide +kernel
theorem dL_law_375 : decode cL_law 375 = .ok (.aload_n 0, 1) := by decide +kernel
theorem dL_law_376 : decode cL_law 376 = .ok (.iload_n 3, 1) := by decide +kernel
theorem dL_law_377 : decode cL_law 377 = .ok (.iconst 2, 1) := by decide +kernel
theorem dL_law_378 : decode cL_law 378 = .ok (.iadd, 1) := by decide +kernel
theorem dL_law_379 : decode cL_law 379 = .ok (.iaload, 1) := by decide +kernel
theorem dL_law_380 : decode cL_law 380 = .ok (.aload_n 0, 1) := by decide +kernel
theorem dL_law_381 : decode cL_law 381 = .ok (.iload_n 3, 1) := by decide +kernel
theorem dL_law_382 : decode cL_law 382 = .ok (.iconst 3, 1) := by decide +kernel
theorem dL_law_383 : decode cL_law 383 = .ok (.iadd, 1) := by decide +kernel
theorem dL_law_384 : decode cL_law 384 = .ok (.iaload, 1) := by decide +kernel
theorem dL_law_385 : decode cL_law 385 = .ok (.invokevirtual 44, 3) := by decide +kernel
theorem dL_law_388 : decode cL_law 388 = .ok (.if_icmp .eq 342, 3) := by decide +kernel
theorem dL_law_391 : decode cL_law 391 = .ok (.iconst 0, 1) := by decide +kernel
theorem dL_law_392 : decode cL_law 392 = .ok (.ireturn, 1) := by decide +kernel
theorem dL_law_393 : decode cL_law 393 = .ok (.aload_n 1, 1) := by decide +kernel
theorem dL_law_394 : decode cL_law 394 = .ok (.aload_n 0, 1) := by decide +kernel
theorem dL_law_395 : decode cL_law 395 = .ok (.iload_n 3, 1) := by decide +kernel
theorem dL_law_396 : decode cL_law 396 = .ok (.iconst 1, 1) := by decide +kernel
theorem dL_law_397 : decode cL_law 397 = .ok (.iadd, 1) := by decide +kernel
theorem dL_law_398 : decode cL_law 398 = .ok (.iaload, 1) := by decide +kernel
theorem dL_law_399 : decode cL_law 399 = .ok (.i2c, 1) := by decide +kernel
theorem dL_law_400 : decode cL_law 400 = .ok (.invokevirtual 45, 3) := by decide +kernel
theorem dL_law_403 : decode cL_law 403 = .ok (.aload_n 2, 1) := by decide +kernel
theorem dL_law_404 : decode cL_law 404 = .ok (.aload_n 0, 1) := by decide +kernel
theorem dL_law_405 : decode cL_law 405 = .ok (.iload_n 3, 1) := by decide +kernel
theorem dL_law_406 : decode cL_law 406 = .ok (.iconst 1, 1) := by decide +kernel
theorem dL_law_407 : decode cL_law 407 = .ok (.iadd, 1) := by decide +kernel
theorem dL_law_408 : decode cL_law 408 = .ok (.iaload, 1) := by decide +kernel
theorem dL_law_409 : decode cL_law 409 = .ok (.i2c, 1) := by decide +kernel
theorem dL_law_410 : decode cL_law 410 = .ok (.invokevirtual 49, 3) := by decide +kernel
theorem dL_law_413 : decode cL_law 413 = .ok (.if_icmp .eq 317, 3) := by decide +kernel
theorem dL_law_416 : decode cL_law 416 = .ok (.iconst 0, 1) := by decide +kernel
theorem dL_law_417 : decode cL_law 417 = .ok (.ireturn, 1) := by decide +kernel
theorem dL_law_418 : decode cL_law 418 = .ok (.aload_n 1, 1) := by decide +kernel
theorem dL_law_419 : decode cL_law 419 = .ok (.invokevirtual 50, 3) := by decide +kernel
theorem dL_law_422 : decode cL_law 422 = .ok (.aload_n 2, 1) := by decide +kernel
theorem dL_law_423 : decode cL_law 423 = .ok (.invokevirtual 53, 3) := by decide +kernel
theorem dL_law_426 : decode cL_law 426 = .ok (.if_icmp .eq 304, 3) := by decide +kernel
theorem dL_law_429 : decode cL_law 429 = .ok (.iconst 0, 1) := by decide +kernel
theorem dL_law_430 : decode cL_law 430 = .ok (.ireturn, 1) := by decide +kernel
theorem dL_law_431 : decode cL_law 431 = .ok (.aload_n 1, 1) := by decide +kernel
theorem dL_law_432 : decode cL_law 432 = .ok (.invokevirtual 54, 3) := by decide +kernel
theorem dL_law_435 : decode cL_law 435 = .ok (.aload_n 2, 1) := by decide +kernel
theorem dL_law_436 : decode cL_law 436 = .ok (.invokevirtual 57, 3) := by decide +kernel
theorem dL_law_439 : decode cL_law 439 = .ok (.if_icmp .eq 291, 3) := by decide +kernel
theorem dL_law_442 : decode cL_law 442 = .ok (.iconst 0, 1) := by decide +kernel
theorem dL_law_443 : decode cL_law 443 = .ok (.ireturn, 1) := by decide +kernel
theorem dL_law_444 : decode cL_law 444 = .ok (.aload_n 1, 1) := by decide +kernel
theorem dL_law_445 : decode cL_law 445 = .ok (.invokevirtual 58, 3) := by decide +kernel
theorem dL_law_448 : decode cL_law 448 = .ok (.aload_n 2, 1) := by decide +kernel
theorem dL_law_449 : decode cL_law 449 = .ok (.invokevirtual 61, 3) := by decide +kernel
theorem dL_law_452 : decode cL_law 452 = .ok (.if_icmp .eq 278, 3) := by decide +kernel
theorem dL_law_455 : decode cL_law 455 = .ok (.iconst 0, 1) := by decide +kernel
theorem dL_law_456 : decode cL_law 456 = .ok (.ireturn, 1) := by decide +kernel
theorem dL_law_457 : decode cL_law 457 = .ok (.aload_n 1, 1) := by decide +kernel
theorem dL_law_458 : decode cL_law 458 = .ok (.invokevirtual 62, 3) := by decide +kernel
theorem dL_law_461 : decode cL_law 461 = .ok (.aload_n 2, 1) := by decide +kernel
theorem dL_law_462 : decode cL_law 462 = .ok (.invokevirtual 65, 3) := by decide +kernel
theorem dL_law_465 : decode cL_law 465 = .ok (.if_icmp .eq 265, 3) := by decide +kernel
theorem dL_law_468 : decode cL_law 468 = .ok (.iconst 0, 1) := by decide +kernel
theorem dL_law_469 : decode cL_law 469 = .ok (.ireturn, 1) := by decide +kernel
theorem dL_law_470 : decode cL_law 470 = .ok (.aload_n 1, 1) := by decide +kernel
theorem dL_law_471 : decode cL_law 471 = .ok (.aload_n 0, 1) := by decide +kernel
theorem dL_law_472 : decode cL_law 472 = .ok (.iload_n 3, 1) := by decide +kernel
theorem dL_law_473 : decode cL_law 473 = .ok (.iconst 1, 1) := by decide +kernel
theorem dL_law_474 : decode cL_law 474 = .ok (.iadd, 1) := by decide +kernel
theorem dL_law_475 : decode cL_law 475 = .ok (.iaload, 1) := by decide +kernel
theorem dL_law_476 : decode cL_law 476 = .ok (.aload_n 0, 1) := by decide +kernel
theorem dL_law_477 : decode cL_law 477 = .ok (.iload_n 3, 1) := by decide +kernel
theorem dL_law_478 : decode cL_law 478 = .ok (.iconst 2, 1) := by decide +kernel
theorem dL_law_479 : decode cL_law 479 = .ok (.iadd, 1) := by decide +kernel
theorem dL_law_480 : decode cL_law 480 = .ok (.iaload, 1) := by decide +kernel
theorem dL_law_481 : decode cL_law 481 = .ok (.invokevirtual 66, 3) := by decide +kernel
theorem dL_law_484 : decode cL_law 484 = .ok (.aload_n 2, 1) := by decide +kernel
theorem dL_law_485 : decode cL_law 485 = .ok (.aload_n 0, 1) := by decide +kernel
theorem dL_law_486 : decode cL_law 486 = .ok (.iload_n 3, 1) := by decide +kernel
theorem dL_law_487 : decode cL_law 487 = .ok (.iconst 1, 1) := by decide +kernel
theorem dL_law_488 : decode cL_law 488 = .ok (.iadd, 1) := by decide +kernel
theorem dL_law_489 : decode cL_law 489 = .ok (.iaload, 1) := by decide +kernel
theorem dL_law_490 : decode cL_law 490 = .ok (.aload_n 0, 1) := by decide +kernel
theorem dL_law_491 : decode cL_law 491 = .ok (.iload_n 3, 1) := by decide +kernel
theorem dL_law_492 : decode cL_law 492 = .ok (.iconst 2, 1) := by decide +kernel
theorem dL_law_493 : decode cL_law 493 = .ok (.iadd, 1) := by decide +kernel
theorem dL_law_494 : decode cL_law 494 = .ok (.iaload, 1) := by decide +kernel
theorem dL_law_495 : decode cL_law 495 = .ok (.invokevirtual 69, 3) := by decide +kernel
theorem dL_law_498 : decode cL_law 498 = .ok (.if_icmp .eq 232, 3) := by decide +kernel
theorem dL_law_501 : decode cL_law 501 = .ok (.iconst 0, 1) := by decide +kernel
theorem dL_law_502 : decode cL_law 502 = .ok (.ireturn, 1) := by decide +kernel
theorem dL_law_503 : decode cL_law 503 = .ok (.aload_n 1, 1) := by decide +kernel
theorem dL_law_504 : decode cL_law 504 = .ok (.aload_n 0, 1) := by decide +kernel
theorem dL_law_505 : decode cL_law 505 = .ok (.iload_n 3, 1) := by decide +kernel
theorem dL_law_506 : decode cL_law 506 = .ok (.iconst 1, 1) := by decide +kernel
theorem dL_law_507 : decode cL_law 507 = .ok (.iadd, 1) := by decide +kernel
theorem dL_law_508 : decode cL_law 508 = .ok (.iaload, 1) := by decide +kernel
theorem dL_law_509 : decode cL_law 509 = .ok (.invokevirtual 70, 3) := by decide +kernel
theorem dL_law_512 : decode cL_law 512 = .ok (.aload_n 2, 1) := by decide +kernel
theorem dL_law_513 : decode cL_law 513 = .ok (.aload_n 0, 1) := by decide +kernel
theorem dL_law_514 : decode cL_law 514 = .ok (.iload_n 3, 1) := by decide +kernel
theorem dL_law_515 : decode cL_law 515 = .ok (.iconst 1, 1) := by decide +kernel
theorem dL_law_516 : decode cL_law 516 = .ok (.iadd, 1) := by decide +kernel
theorem dL_law_517 : decode cL_law 517 = .ok (.iaload, 1) := by decide +kernel
theorem dL_law_518 : decode cL_law 518 = .ok (.invokevirtual 74, 3) := by decide +kernel
theorem dL_law_521 : decode cL_law 521 = .ok (.if_icmp .eq 209, 3) := by decide +kernel
theorem dL_law_524 : decode cL_law 524 = .ok (.iconst 0, 1) := by decide +kernel
theorem dL_law_525 : decode cL_law 525 = .ok (.ireturn, 1) := by decide +kernel
theorem dL_law_526 : decode cL_law 526 = .ok (.aload_n 1, 1) := by decide +kernel
theorem dL_law_527 : decode cL_law 527 = .ok (.aload_n 0, 1) := by decide +kernel
theorem dL_law_528 : decode cL_law 528 = .ok (.iload_n 3, 1) := by decide +kernel
theorem dL_law_529 : decode cL_law 529 = .ok (.iconst 1, 1) := by decide +kernel
theorem dL_law_530 : decode cL_law 530 = .ok (.iadd, 1) := by decide +kernel
theorem dL_law_531 : decode cL_law 531 = .ok (.iaload, 1) := by decide +kernel
theorem dL_law_532 : decode cL_law 532 = .ok (.invokevirtual 75, 3) := by decide +kernel
theorem dL_law_535 : decode cL_law 535 = .ok (.aload_n 2, 1) := by decide +kernel
theorem dL_law_536 : decode cL_law 536 = .ok (.aload_n 0, 1) := by decide +kernel
theorem dL_law_537 : decode cL_law 537 = .ok (.iload_n 3, 1) := by decide +kernel
theorem dL_law_538 : decode cL_law 538 = .ok (.iconst 1, 1) := by decide +kernel
theorem dL_law_539 : decode cL_law 539 = .ok (.iadd, 1) := by decide +kernel
theorem dL_law_540 : decode cL_law 540 = .ok (.iaload, 1) := by decide +kernel
theorem dL_law_541 : decode cL_law 541 = .ok (.invokevirtual 78, 3) := by decide +kernel
theorem dL_law_544 : decode cL_law 544 = .ok (.if_icmp .eq 186, 3) := by decide +kernel
theorem dL_law_547 : decode cL_law 547 = .ok (.iconst 0, 1) := by decide +kernel
theorem dL_law_548 : decode cL_law 548 = .ok (.ireturn, 1) := by decide +kernel
theorem dL_law_549 : decode cL_law 549 = .ok (.aload_n 1, 1) := by decide +kernel
theorem dL_law_550 : decode cL_law 550 = .ok (.aload_n 0, 1) := by decide +kernel
theorem dL_law_551 : decode cL_law 551 = .ok (.iload_n 3, 1) := by decide +kernel
theorem dL_law_552 : decode cL_law 552 = .ok (.iconst 1, 1) := by decide +kernel
theorem dL_law_553 : decode cL_law 553 = .ok (.iadd, 1) := by decide +kernel
theorem dL_law_554 : decode cL_law 554 = .ok (.iaload, 1) := by decide +kernel
theorem dL_law_555 : decode cL_law 555 = .ok (.aload_n 0, 1) := by decide +kernel
theorem dL_law_556 : decode cL_law 556 = .ok (.iload_n 3, 1) := by decide +kernel
theorem dL_law_557 : decode cL_law 557 = .ok (.iconst 2, 1) := by decide +kernel
theorem dL_law_558 : decode cL_law 558 = .ok (.iadd, 1) := by decide +kernel
theorem dL_law_559 : decode cL_law 559 = .ok (.iaload, 1) := by decide +kernel
theorem dL_law_560 : decode cL_law 560 = .ok (.invokevirtual 79, 3) := by decide +kernel
theorem dL_law_563 : decode cL_law 563 = .ok (.aload_n 2, 1) := by decide +kernel
theorem dL_law_564 : decode cL_law 564 = .ok (.aload_n 0, 1) := by decide +kernel
theorem dL_law_565 : decode cL_law 565 = .ok (.iload_n 3, 1) := by decide +kernel
theorem dL_law_566 : decode cL_law 566 = .ok (.iconst 1, 1) := by decide +kernel
theorem dL_law_567 : decode cL_law 567 = .ok (.iadd, 1) := by decide +kernel
theorem dL_law_568 : decode cL_law 568 = .ok (.iaload, 1) := by decide +kernel
theorem dL_law_569 : decode cL_law 569 = .ok (.aload_n 0, 1) := by decide +kernel
theorem dL_law_570 : decode cL_law 570 = .ok (.iload_n 3, 1) := by decide +kernel
theorem dL_law_571 : decode cL_law 571 = .ok (.iconst 2, 1) := by decide +kernel
theorem dL_law_572 : decode cL_law 572 = .ok (.iadd, 1) := by decide +kernel
theorem dL_law_573 : decode cL_law 573 = .ok (.iaload, 1) := by decide +kernel
theorem dL_law_574 : decode cL_law 574 = .ok (.invokevirtual 82, 3) := by decide +kernel
theorem dL_law_577 : decode cL_law 577 = .ok (.if_icmp .eq 153, 3) := by decide +kernel
theorem dL_law_580 : decode cL_law 580 = .ok (.iconst 0, 1) := by decide +kernel
theorem dL_law_581 : decode cL_law 581 = .ok (.ireturn, 1) := by decide +kernel
theorem dL_law_582 : decode cL_law 582 = .ok (.aload_n 1, 1) := by decide +kernel
theorem dL_law_583 : decode cL_law 583 = .ok (.aload_n 0, 1) := by decide +kernel
theorem dL_law_584 : decode cL_law 584 = .ok (.iload_n 3, 1) := by decide +kernel
theorem dL_law_585 : decode cL_law 585 = .ok (.iconst 1, 1) := by decide +kernel
theorem dL_law_586 : decode cL_law 586 = .ok (.iadd, 1) := by decide +kernel
theorem dL_law_587 : decode cL_law 587 = .ok (.iaload, 1) := by decide +kernel
theorem dL_law_588 : decode cL_law 588 = .ok (.aload_n 0, 1) := by decide +kernel
theorem dL_law_589 : decode cL_law 589 = .ok (.iload_n 3, 1) := by decide +kernel
theorem dL_law_590 : decode cL_law 590 = .ok (.iconst 2, 1) := by decide +kernel
theorem dL_law_591 : decode cL_law 591 = .ok (.iadd, 1) := by decide +kernel
theorem dL_law_592 : decode cL_law 592 = .ok (.iaload, 1) := by decide +kernel
theorem dL_law_593 : decode cL_law 593 = .ok (.invokevirtual 83, 3) := by decide +kernel
theorem dL_law_596 : decode cL_law 596 = .ok (.aload_n 2, 1) := by decide +kernel
theorem dL_law_597 : decode cL_law 597 = .ok (.aload_n 0, 1) := by decide +kernel
theorem dL_law_598 : decode cL_law 598 = .ok (.iload_n 3, 1) := by decide +kernel
theorem dL_law_599 : decode cL_law 599 = .ok (.iconst 1, 1) := by decide +kernel
theorem dL_law_600 : decode cL_law 600 = .ok (.iadd, 1) := by decide +kernel
theorem dL_law_601 : decode cL_law 601 = .ok (.iaload, 1) := by decide +kernel
theorem dL_law_602 : decode cL_law 602 = .ok (.aload_n 0, 1) := by decide +kernel
theorem dL_law_603 : decode cL_law 603 = .ok (.iload_n 3, 1) := by decide +kernel
theorem dL_law_604 : decode cL_law 604 = .ok (.iconst 2, 1) := by decide +kernel
theorem dL_law_605 : decode cL_law 605 = .ok (.iadd, 1) := by decide +kernel
theorem dL_law_606 : decode cL_law 606 = .ok (.iaload, 1) := by decide +kernel
theorem dL_law_607 : decode cL_law 607 = .ok (.invokevirtual 86, 3) := by decide +kernel
theorem dL_law_610 : decode cL_law 610 = .ok (.if_icmp .eq 120, 3) := by decide +kernel
theorem dL_law_613 : decode cL_law 613 = .ok (.iconst 0, 1) := by decide +kernel
theorem dL_law_614 : decode cL_law 614 = .ok (.ireturn, 1) := by decide +kernel
theorem dL_law_615 : decode cL_law 615 = .ok (.aload_n 1, 1) := by decide +kernel
theorem dL_law_616 : decode cL_law 616 = .ok (.aload_n 0, 1) := by decide +kernel
theorem dL_law_617 : decode cL_law 617 = .ok (.iload_n 3, 1) := by decide +kernel
theorem dL_law_618 : decode cL_law 618 = .ok (.iconst 1, 1) := by decide +kernel
theorem dL_law_619 : decode cL_law 619 = .ok (.iadd, 1) := by decide +kernel
theorem dL_law_620 : decode cL_law 620 = .ok (.iaload, 1) := by decide +kernel
theorem dL_law_621 : decode cL_law 621 = .ok (.invokevirtual 87, 3) := by decide +kernel
theorem dL_law_624 : decode cL_law 624 = .ok (.aload_n 2, 1) := by decide +kernel
theorem dL_law_625 : decode cL_law 625 = .ok (.aload_n 0, 1) := by decide +kernel
theorem dL_law_626 : decode cL_law 626 = .ok (.iload_n 3, 1) := by decide +kernel
theorem dL_law_627 : decode cL_law 627 = .ok (.iconst 1, 1) := by decide +kernel
theorem dL_law_628 : decode cL_law 628 = .ok (.iadd, 1) := by decide +kernel
theorem dL_law_629 : decode cL_law 629 = .ok (.iaload, 1) := by decide +kernel
theorem dL_law_630 : decode cL_law 630 = .ok (.invokevirtual 90, 3) := by decide +kernel
theorem dL_law_633 : decode cL_law 633 = .ok (.if_icmp .eq 97, 3) := by decide +kernel
theorem dL_law_636 : decode cL_law 636 = .ok (.iconst 0, 1) := by decide +kernel
theorem dL_law_637 : decode cL_law 637 = .ok (.ireturn, 1) := by decide +kernel
theorem dL_law_638 : decode cL_law 638 = .ok (.aload_n 1, 1) := by decide +kernel
theorem dL_law_639 : decode cL_law 639 = .ok (.aload_n 0, 1) := by decide +kernel
theorem dL_law_640 : decode cL_law 640 = .ok (.iload_n 3, 1) := by decide +kernel
theorem dL_law_641 : decode cL_law 641 = .ok (.iconst 1, 1) := by decide +kernel
theorem dL_law_642 : decode cL_law 642 = .ok (.iadd, 1) := by decide +kernel
theorem dL_law_643 : decode cL_law 643 = .ok (.iaload, 1) := by decide +kernel
theorem dL_law_644 : decode cL_law 644 = .ok (.aload_n 0, 1) := by decide +kernel
theorem dL_law_645 : decode cL_law 645 = .ok (.iload_n 3, 1) := by decide +kernel
theorem dL_law_646 : decode cL_law 646 = .ok (.iconst 2, 1) := by decide +kernel
theorem dL_law_647 : decode cL_law 647 = .ok (.iadd, 1) := by decide +kernel
theorem dL_law_648 : decode cL_law 648 = .ok (.iaload, 1) := by decide +kernel
theorem dL_law_649 : decode cL_law 649 = .ok (.invokevirtual 91, 3) := by decide +kernel
theorem dL_law_652 : decode cL_law 652 = .ok (.aload_n 2, 1) := by decide +kernel
theorem dL_law_653 : decode cL_law 653 = .ok (.aload_n 0, 1) := by decide +kernel
theorem dL_law_654 : decode cL_law 654 = .ok (.iload_n 3, 1) := by decide +kernel
theorem dL_law_655 : decode cL_law 655 = .ok (.iconst 1, 1) := by decide +kernel
theorem dL_law_656 : decode cL_law 656 = .ok (.iadd, 1) := by decide +kernel
theorem dL_law_657 : decode cL_law 657 = .ok (.iaload, 1) := by decide +kernel
theorem dL_law_658 : decode cL_law 658 = .ok (.aload_n 0, 1) := by decide +kernel
theorem dL_law_659 : decode cL_law 659 = .ok (.iload_n 3, 1) := by decide +kernel
theorem dL_law_660 : decode cL_law 660 = .ok (.iconst 2, 1) := by decide +kernel
theorem dL_law_661 : decode cL_law 661 = .ok (.iadd, 1) := by decide +kernel
theorem dL_law_662 : decode cL_law 662 = .ok (.iaload, 1) := by decide +kernel
theorem dL_law_663 : decode cL_law 663 = .ok (.invokevirtual 94, 3) := by decide +kernel
theorem dL_law_666 : decode cL_law 666 = .ok (.if_icmp .eq 64, 3) := by decide +kernel
theorem dL_law_669 : decode cL_law 669 = .ok (.iconst 0, 1) := by decide +kernel
theorem dL_law_670 : decode cL_law 670 = .ok (.ireturn, 1) := by decide +kernel
theorem dL_law_671 : decode cL_law 671 = .ok (.aload_n 1, 1) := by decide +kernel
theorem dL_law_672 : decode cL_law 672 = .ok (.invokevirtual 95, 3) := by decide +kernel
theorem dL_law_675 : decode cL_law 675 = .ok (.aload_n 2, 1) := by decide +kernel
theorem dL_law_676 : decode cL_law 676 = .ok (.invokevirtual 98, 3) := by decide +kernel
theorem dL_law_679 : decode cL_law 679 = .ok (.if_icmp .eq 51, 3) := by decide +kernel
theorem dL_law_682 : decode cL_law 682 = .ok (.iconst 0, 1) := by decide +kernel
theorem dL_law_683 : decode cL_law 683 = .ok (.ireturn, 1) := by decide +kernel
theorem dL_law_684 : decode cL_law 684 = .ok (.aload_n 1, 1) := by decide +kernel
theorem dL_law_685 : decode cL_law 685 = .ok (.aload_n 0, 1) := by decide +kernel
theorem dL_law_686 : decode cL_law 686 = .ok (.iload_n 3, 1) := by decide +kernel
theorem dL_law_687 : decode cL_law 687 = .ok (.iconst 1, 1) := by decide +kernel
theorem dL_law_688 : decode cL_law 688 = .ok (.iadd, 1) := by decide +kernel
theorem dL_law_689 : decode cL_law 689 = .ok (.iaload, 1) := by decide +kernel
theorem dL_law_690 : decode cL_law 690 = .ok (.aload_n 0, 1) := by decide +kernel
theorem dL_law_691 : decode cL_law 691 = .ok (.iload_n 3, 1) := by decide +kernel
theorem dL_law_692 : decode cL_law 692 = .ok (.iconst 2, 1) := by decide +kernel
theorem dL_law_693 : decode cL_law 693 = .ok (.iadd, 1) := by decide +kernel
theorem dL_law_694 : decode cL_law 694 = .ok (.iaload, 1) := by decide +kernel
theorem dL_law_695 : decode cL_law 695 = .ok (.invokevirtual 99, 3) := by decide +kernel
theorem dL_law_698 : decode cL_law 698 = .ok (.aload_n 2, 1) := by decide +kernel
theorem dL_law_699 : decode cL_law 699 = .ok (.aload_n 0, 1) := by decide +kernel
theorem dL_law_700 : decode cL_law 700 = .ok (.iload_n 3, 1) := by decide +kernel
theorem dL_law_701 : decode cL_law 701 = .ok (.iconst 1, 1) := by decide +kernel
theorem dL_law_702 : decode cL_law 702 = .ok (.iadd, 1) := by decide +kernel
theorem dL_law_703 : decode cL_law 703 = .ok (.iaload, 1) := by decide +kernel
theorem dL_law_704 : decode cL_law 704 = .ok (.aload_n 0, 1) := by decide +kernel
theorem dL_law_705 : decode cL_law 705 = .ok (.iload_n 3, 1) := by decide +kernel
theorem dL_law_706 : decode cL_law 706 = .ok (.iconst 2, 1) := by decide +kernel
theorem dL_law_707 : decode cL_law 707 = .ok (.iadd, 1) := by decide +kernel
theorem dL_law_708 : decode cL_law 708 = .ok (.iaload, 1) := by decide +kernel
theorem dL_law_709 : decode cL_law 709 = .ok (.invokevirtual 102, 3) := by decide +kernel
theorem dL_law_712 : decode cL_law 712 = .ok (.if_icmp .eq 18, 3) := by decide +kernel
theorem dL_law_715 : decode cL_law 715 = .ok (.iconst 0, 1) := by decide +kernel
theorem dL_law_716 : decode cL_law 716 = .ok (.ireturn, 1) := by decide +kernel
theorem dL_law_717 : decode cL_law 717 = .ok (.aload_n 1, 1) := by decide +kernel
theorem dL_law_718 : decode cL_law 718 = .ok (.invokevirtual 103, 3) := by decide +kernel
theorem dL_law_721 : decode cL_law 721 = .ok (.aload_n 2, 1) := by decide +kernel
theorem dL_law_722 : decode cL_law 722 = .ok (.invokevirtual 106, 3) := by decide +kernel
theorem dL_law_725 : decode cL_law 725 = .ok (.if_icmp .eq 5, 3) := by decide +kernel
theorem dL_law_728 : decode cL_law 728 = .ok (.iconst 0, 1) := by decide +kernel
theorem dL_law_729 : decode cL_law 729 = .ok (.ireturn, 1) := by decide +kernel
theorem dL_law_730 : decode cL_law 730 = .ok (.iinc 3 6, 3) := by decide +kernel
theorem dL_law_733 : decode cL_law 733 = .ok (.goto (-715), 3) := by decide +kernel
theorem dL_law_736 : decode cL_law 736 = .ok (.iconst 1, 1) := by decide +kernel
theorem dL_law_737 : decode cL_law 737 = .ok (.ireturn, 1) := by decide +kernel
end
section
/-! ===== numbers ===== -/
def zI (z : Int) : Int32 := Int32.ofInt z
def inR (z : Int) : Prop := -2147483648 ≤ z ∧ z ≤ 2147483647
theorem zI_toInt {z : Int} (h : inR z) : (zI z).toInt = z := Int32.toInt_ofInt_of_le (by have := h.1; omega) (by have := h.2; omega)
theorem zI_of (x : Int32) : zI x.toInt = x := Int32.ofInt_toInt x
theorem inR_of (x : Int32) : inR x.toInt := ⟨by have := Int32.le_toInt x; omega, by have := Int32.toInt_lt x; omega⟩
theorem zI_lt {a b : Int} (ha : inR a) (hb : inR b) : zI a < zI b ↔ a < b := by rw [Int32.lt_iff_toInt_lt, zI_toInt ha, zI_toInt hb]
theorem zI_le {a b : Int} (ha : inR a) (hb : inR b) : zI a ≤ zI b ↔ a ≤ b := by rw [Int32.le_iff_toInt_le, zI_toInt ha, zI_toInt hb]
theorem zI_inj {a b : Int} (ha : inR a) (hb : inR b) : zI a = zI b ↔ a = b := by rw [← Int32.toInt_inj, zI_toInt ha, zI_toInt hb]
theorem zI_add (a b : Int) : zI a + zI b = zI (a + b) := (Int32.ofInt_add a b).symm
theorem zI_sub (a b : Int) : zI a - zI b = zI (a - b) := (Int32.ofInt_sub a b).symm
theorem zI_mul (a b : Int) : zI a * zI b = zI (a * b) := (Int32.ofInt_mul a b).symm
theorem zI_neg (a : Int) : - zI a = zI (- a) := (Int32.ofInt_neg a).symm
theorem zI_0 : zI 0 = 0 := by decide
theorem inR_0 : inR 0 := ⟨by decide, by decide⟩
theorem zI_min : Int32.minValue.toInt = -2147483648 := by decide
theorem zI_max : Int32.maxValue.toInt = 2147483647 := by decide
theorem zI_div {a b : Int} (ha : inR a) (hb : inR b) : zI a / zI b = zI (a.tdiv b) := by
  refine (Int32.ofInt_tdiv ?_ ?_ ?_ ?_).symm <;> first | rw [zI_min] | rw [zI_max]
  · exact ha.1
  · exact ha.2
  · exact hb.1
  · exact hb.2
theorem zI_rem {a b : Int} (ha : inR a) (hb : inR b) : zI a - zI a / zI b * zI b = zI (a.tmod b) := by
  rw [zI_div ha hb, zI_mul, zI_sub]
  congr 1
  have := Int.tmod_add_mul_tdiv a b
  rw [Int.mul_comm (a.tdiv b) b]
  omega
theorem zI_cl {z : Int} (h : inR z) : (zI z).toNatClampNeg = z.toNat := by rw [← Int32.toNat_toInt, zI_toInt h]
theorem zI_in {z : Int} {n : Nat} (h : inR z) (h0 : 0 ≤ z) (h1 : z < n) : vp_in (zI z) n := vp_in_iff.mpr (by rw [zI_toInt h]; exact ⟨h0, h1⟩)
/-! ===== values, memory ===== -/
abbrev Vv : Type := Int ⊕ Option Nat
abbrev En : Type := Nat → Vv
abbrev Mm : Type := List (Nat × Nat) × (Nat → Nat → Int) × (Nat → Nat → Option Nat)
def clR : Nat → List Bool
  | 0 => [true, false]
  | 1 => [true, true, true, true, true, true, true, true, true, true, false, false]
  | 2 => [false, false, false]
  | 3 => [true, true, true, true, true, false]
  | 4 => [true, true, true]
  | 5 => [true, false]
  | 6 => [true, true, true, false, true, true, true, true]
  | 7 => [true, true, false, true, false, true, false, true, true, true, true, true, true, false, true, false]
  | _ => []
def cv (ad : Nat → Nat) : Vv → Value
  | .inl z => .int (zI z)
  | .inr none => .null
  | .inr (some k) => .ref (ad k)
theorem cv_cat (ad : Nat → Nat) (v : Vv) : (cv ad v).category = 1 := by
  rcases v with z | _ | k <;> rfl
def fvs (ad : Nat → Nat) (M : Mm) (q : Nat) (bs : List Bool) : List Value := (List.range bs.length).map (fun k => if bs.getD k false = true then va_rf ((M.2.2 q k).map ad) else .int (zI (M.2.1 q k)))
def cellE (cI cC cS : ClassId) (ad : Nat → Nat) (M : Mm) (q : Nat) (w : Nat × Nat) : va_E :=
  if w.1 < 8 then .inr (w.1, fvs ad M q (clR w.1)) else if w.1 = 20 then .inl (cI, w.2, .inl (fun j => zI (M.2.1 q j))) else if w.1 = 21 then .inl (cC, w.2, .inl (fun j => zI (M.2.1 q j))) else .inl (cS, w.2, .inr (.inr (.inr (.inr (fun j => (M.2.2 q j).map ad)))))
def wsOf (cI cC cS : ClassId) (ad : Nat → Nat) (M : Mm) : va_W := (List.range M.1.length).map (fun q => (ad q, cellE cI cC cS ad M q (M.1.getD q (0, 0))))
theorem ws_get {cI cC cS : ClassId} {ad : Nat → Nat} {M : Mm} {q : Nat} {w : Nat × Nat} (h : M.1[q]? = some w) : (wsOf cI cC cS ad M)[q]? = some (ad q, cellE cI cC cS ad M q w) := by
  have hl : q < M.1.length := (List.getElem?_eq_some_iff.mp h).1
  unfold wsOf
  rw [List.getElem?_map, List.getElem?_range hl]
  simp [List.getD_eq_getElem?_getD, h]
theorem ws_len {cI cC cS : ClassId} {ad : Nat → Nat} {M : Mm} : (wsOf cI cC cS ad M).length = M.1.length := by simp [wsOf]
theorem ws_upd {cI cC cS : ClassId} {ad : Nat → Nat} {M M' : Mm} {q : Nat} {w : Nat × Nat} (h : M.1[q]? = some w) (hs : M'.1 = M.1) (ho : ∀ r w', r ≠ q → cellE cI cC cS ad M' r w' = cellE cI cC cS ad M r w') :
    (wsOf cI cC cS ad M).set q (ad q, cellE cI cC cS ad M' q w) = wsOf cI cC cS ad M' := by
  apply List.ext_getElem?
  intro i
  rw [List.getElem?_set]
  by_cases hi : q = i
  · subst hi
    have hl : q < M.1.length := (List.getElem?_eq_some_iff.mp h).1
    rw [if_pos rfl, if_pos (by rw [ws_len]; exact hl), ws_get (M := M') (by rw [hs]; exact h)]
  · rw [if_neg hi]
    by_cases hl : i < M.1.length
    · obtain ⟨w', hw⟩ : ∃ w', M.1[i]? = some w' := ⟨_, List.getElem?_eq_getElem hl⟩
      rw [ws_get hw, ws_get (M := M') (by rw [hs]; exact hw), ho i w' (fun e => hi e.symm)]
    · rw [List.getElem?_eq_none (by rw [ws_len]; omega), List.getElem?_eq_none (by rw [ws_len, hs]; omega)]
/-- an int is put -/
def si (M : Mm) (q k : Nat) (z : Int) : Mm := (M.1, fun q' k' => if q' = q ∧ k' = k then z else M.2.1 q' k', M.2.2)
/-- a place is put -/
def sr (M : Mm) (q k : Nat) (r : Option Nat) : Mm := (M.1, M.2.1, fun q' k' => if q' = q ∧ k' = k then r else M.2.2 q' k')
/-- a cell comes -/
def pu (M : Mm) (w : Nat × Nat) : Mm := (M.1 ++ [w], M.2)
theorem fvs_len {ad : Nat → Nat} {M : Mm} {q : Nat} {bs : List Bool} : (fvs ad M q bs).length = bs.length := by simp [fvs]
theorem fvs_get {ad : Nat → Nat} {M : Mm} {q k : Nat} {bs : List Bool} {b : Bool} (h : bs[k]? = some b) : (fvs ad M q bs)[k]? = some (if b = true then va_rf ((M.2.2 q k).map ad) else .int (zI (M.2.1 q k))) := by
  have hl : k < bs.length := (List.getElem?_eq_some_iff.mp h).1
  unfold fvs
  rw [List.getElem?_map, List.getElem?_range hl]
  simp [List.getD_eq_getElem?_getD, h]
theorem fvs_si {ad : Nat → Nat} {M : Mm} {q k : Nat} {bs : List Bool} {z : Int} (h : bs[k]? = some false) : (fvs ad M q bs).set k (.int (zI z)) = fvs ad (si M q k z) q bs := by
  apply List.ext_getElem?
  intro i
  rw [List.getElem?_set]
  have hl : k < bs.length := (List.getElem?_eq_some_iff.mp h).1
  by_cases hi : k = i
  · subst hi
    rw [if_pos rfl, if_pos (by rw [fvs_len]; exact hl), fvs_get h]
    simp [si]
  · rw [if_neg hi]
    by_cases hl2 : i < bs.length
    · obtain ⟨b, hb⟩ : ∃ b, bs[i]? = some b := ⟨_, List.getElem?_eq_getElem hl2⟩
      rw [fvs_get hb, fvs_get hb]
      simp [si, Ne.symm hi]
    · rw [List.getElem?_eq_none (by rw [fvs_len]; omega), List.getElem?_eq_none (by rw [fvs_len]; omega)]
theorem fvs_sr {ad : Nat → Nat} {M : Mm} {q k : Nat} {bs : List Bool} {r : Option Nat} (h : bs[k]? = some true) : (fvs ad M q bs).set k (va_rf (r.map ad)) = fvs ad (sr M q k r) q bs := by
  apply List.ext_getElem?
  intro i
  rw [List.getElem?_set]
  have hl : k < bs.length := (List.getElem?_eq_some_iff.mp h).1
  by_cases hi : k = i
  · subst hi
    rw [if_pos rfl, if_pos (by rw [fvs_len]; exact hl), fvs_get h]
    simp [sr]
  · rw [if_neg hi]
    by_cases hl2 : i < bs.length
    · obtain ⟨b, hb⟩ : ∃ b, bs[i]? = some b := ⟨_, List.getElem?_eq_getElem hl2⟩
      rw [fvs_get hb, fvs_get hb]
      simp [sr, Ne.symm hi]
    · rw [List.getElem?_eq_none (by rw [fvs_len]; omega), List.getElem?_eq_none (by rw [fvs_len]; omega)]
theorem cell_si {cI cC cS : ClassId} {ad : Nat → Nat} {M : Mm} {q k : Nat} {z : Int} : ∀ r w', r ≠ q → cellE cI cC cS ad (si M q k z) r w' = cellE cI cC cS ad M r w' := by
  intro r w' hr
  simp [cellE, fvs, si, hr]
theorem cell_sr {cI cC cS : ClassId} {ad : Nat → Nat} {M : Mm} {q k : Nat} {z : Option Nat} : ∀ r w', r ≠ q → cellE cI cC cS ad (sr M q k z) r w' = cellE cI cC cS ad M r w' := by
  intro r w' hr
  simp [cellE, fvs, sr, hr]
def ssz (w : Nat × Nat) : Nat := if w.1 < 8 then (clR w.1).length else w.2
def ssum (l : List (Nat × Nat)) : Nat := (l.map ssz).sum
def vok (M : Mm) : Vv → Prop
  | .inl z => inR z
  | .inr none => True
  | .inr (some k) => k < M.1.length ∨ (1000000 ≤ k ∧ k < 1000004)
def MOK (M : Mm) : Prop := M.1.length ≤ 1000000 ∧ (∀ q k, inR (M.2.1 q k)) ∧ (∀ q k j, M.2.2 q k = some j → j < M.1.length) ∧ (∀ q k, M.1.length ≤ q → M.2.1 q k = 0 ∧ M.2.2 q k = none)
theorem MOK_si {M : Mm} {q k : Nat} {z : Int} (h : MOK M) (hq : q < M.1.length) (hz : inR z) : MOK (si M q k z) := by
  refine ⟨h.1, fun a b => ?_, h.2.2.1, fun a b hab => ⟨?_, (h.2.2.2 a b hab).2⟩⟩
  · show inR (if a = q ∧ b = k then z else M.2.1 a b)
    split
    · exact hz
    · exact h.2.1 a b
  · have hab' : M.1.length ≤ a := hab
    show (if a = q ∧ b = k then z else M.2.1 a b) = 0
    rw [if_neg (by omega)]
    exact (h.2.2.2 a b hab).1
theorem MOK_sr {M : Mm} {q k : Nat} {r : Option Nat} (h : MOK M) (hq : q < M.1.length) (hr : ∀ j, r = some j → j < M.1.length) : MOK (sr M q k r) := by
  refine ⟨h.1, h.2.1, fun a b j => ?_, fun a b hab => ⟨(h.2.2.2 a b hab).1, ?_⟩⟩
  · show (if a = q ∧ b = k then r else M.2.2 a b) = some j → _
    split
    · exact hr j
    · exact h.2.2.1 a b j
  · have hab' : M.1.length ≤ a := hab
    show (if a = q ∧ b = k then r else M.2.2 a b) = none
    rw [if_neg (by omega)]
    exact (h.2.2.2 a b hab).2
theorem MOK_pu {M : Mm} {w : Nat × Nat} (h : MOK M) (hl : M.1.length + 1 ≤ 1000000) : MOK (pu M w) := by
  have e : (pu M w).1.length = M.1.length + 1 := by simp [pu]
  refine ⟨by rw [e]; exact hl, h.2.1, fun a b j hj => by rw [e]; exact Nat.lt_succ_of_lt (h.2.2.1 a b j hj), fun a b hab => h.2.2.2 a b (by rw [e] at hab; omega)⟩
theorem vok_pu {M : Mm} {w : Nat × Nat} {v : Vv} (h : vok M v) : vok (pu M w) v := by
  have e : (pu M w).1.length = M.1.length + 1 := by simp [pu]
  rcases v with z | _ | k
  · exact h
  · trivial
  · rcases h with h | h
    · exact Or.inl (by rw [e]; omega)
    · exact Or.inr h
/-! ===== locals ===== -/
def envF (ad : Nat → Nat) (ρ : En) (i : Nat) : Option (Nat × Value) := match ρ i with
  | .inr none => none
  | v => some (i, cv ad v)
def envL (ad : Nat → Nat) (ρ : En) (n : Nat) : List (Nat × Value) := (List.range n).filterMap (envF ad ρ)
theorem envF_of {ad : Nat → Nat} {ρ : En} {i : Nat} {v : Vv} (h : ρ i = v) (hv : v ≠ .inr none) : envF ad ρ i = some (i, cv ad v) := by
  unfold envF
  rw [h]
  rcases v with z | _ | k
  · rfl
  · exact absurd rfl hv
  · rfl
theorem envF_no {ad : Nat → Nat} {ρ : En} {i : Nat} (h : ρ i = .inr none) : envF ad ρ i = none := by
  unfold envF
  rw [h]
theorem envF_to {ad : Nat → Nat} {ρ : En} {i : Nat} {q : Nat × Value} (h : envF ad ρ i = some q) : q = (i, cv ad (ρ i)) ∧ ρ i ≠ .inr none := by
  rcases e : ρ i with z | _ | k
  · rw [envF_of e (fun h => by cases h)] at h
    exact ⟨(Option.some.inj h).symm, fun h => by cases h⟩
  · rw [envF_no e] at h
    cases h
  · rw [envF_of e (fun h => by cases h)] at h
    exact ⟨(Option.some.inj h).symm, fun h => by cases h⟩
theorem env_at {ad : Nat → Nat} {ρ : En} {nL : Nat} {ls : Array Slot} (h : lv_has ls nL (envL ad ρ nL)) {i : Nat} {v : Vv} (hi : i < nL) (he : ρ i = v) (hv : v ≠ .inr none) : ls[i]? = some (.val (cv ad v)) :=
  h.2.2 (i, cv ad v) (List.mem_filterMap.mpr ⟨i, List.mem_range.mpr hi, envF_of he hv⟩)
theorem env_put {ad : Nat → Nat} {ρ : En} {nL i : Nat} {v : Vv} {ls : Array Slot} (h : lv_has ls nL ((i, cv ad v) :: (envL ad ρ nL).filter (fun q => !(q.1 == i) && !(q.1 + 1 == i && q.2.category == 2)))) : lv_has ls nL (envL ad (va_up ρ i v) nL) := by
  refine ⟨h.1, h.2.1, fun q hq => h.2.2 q ?_⟩
  obtain ⟨j, hj, hq⟩ := List.mem_filterMap.mp hq
  obtain ⟨rfl, hn⟩ := envF_to hq
  by_cases hij : j = i
  · subst hij
    rw [va_up_self]
    exact List.mem_cons_self
  · rw [va_up_ne _ _ hij] at hn ⊢
    refine List.mem_cons_of_mem _ (List.mem_filter.mpr ⟨List.mem_filterMap.mpr ⟨j, hj, envF_of rfl hn⟩, ?_⟩)
    simp [hij, cv_cat]
theorem env_ext {ad ad' : Nat → Nat} {ρ : En} {nL : Nat} {ls : Array Slot} (h : lv_has ls nL (envL ad ρ nL)) (he : ∀ i, i < nL → cv ad' (ρ i) = cv ad (ρ i)) : lv_has ls nL (envL ad' ρ nL) := by
  refine ⟨h.1, h.2.1, fun q hq => h.2.2 q ?_⟩
  obtain ⟨j, hj, hq⟩ := List.mem_filterMap.mp hq
  obtain ⟨rfl, hn⟩ := envF_to hq
  rw [he j (List.mem_range.mp hj)]
  exact List.mem_filterMap.mpr ⟨j, hj, envF_of rfl hn⟩
def limC (ρ : En) : Nat := match ρ 1000 with
  | .inl z => z.toNat
  | _ => 0
def limS (ρ : En) : Nat := match ρ 1001 with
  | .inl z => z.toNat
  | _ => 0
theorem limC_up {ρ : En} {i : Nat} {v : Vv} (h : i < 1000) : limC (va_up ρ i v) = limC ρ := by
  unfold limC
  rw [va_up_ne _ _ (by omega)]
theorem limS_up {ρ : En} {i : Nat} {v : Vv} (h : i < 1000) : limS (va_up ρ i v) = limS ρ := by
  unfold limS
  rw [va_up_ne _ _ (by omega)]
/-! ===== statics, the point ===== -/
def stN : Nat → String
  | 0 => "FIRST_VALUES"
  | 1 => "LOWEST_VALUES"
  | _ => "HIGHEST_VALUES"
/-- the tables' words that stay over a call -/
def gtb : List Cond := lw_tbl.filter goodWord
def isNest : Cond → Bool
  | .methodLinkNest .. => true
  | .fieldLinkNest .. => true
  | _ => false
def nestW : List Cond := lw_tbl.filter isNest
theorem nest_on {w : Cond} (h : isNest w = true) : w.onTables = true := by
  cases w <;> first | rfl | (cases h; done)
theorem nest_mv {w : Cond} {s U : State} (h : isNest w = true) (hW : s.WarmedH U.vm) (hZ : va_Nw w s) : va_Nw w U := by
  cases w <;> first | exact va_Nw.warmM hW hZ | exact va_Nw.warmF hW hZ | (cases h; done)
theorem in_n (w : Cond) (i : Nat) (h : lw_tbl[i]? = some w) (hn : isNest w = true) : w ∈ nestW := List.mem_filter.mpr ⟨List.mem_of_getElem? h, hn⟩
def tysOf (cI cC cS : ClassId) : List (ClassId × FieldType) := [(cI, .int), (cC, .char), (cS, .object "SungSlides$State")]
/-- tables that are read alone: the statics 0, 1, 2, in the law the script too -/
def stV : Nat → Nat → Int
  | 0, 0 => 16
  | 0, 1 => 1
  | 0, 2 => 2
  | 0, 3 => 0
  | 0, 4 => 50
  | 1, 0 => 2
  | 1, 1 => 0
  | 1, 2 => 0
  | 1, 3 => 0
  | 1, 4 => 1
  | 2, 0 => 64
  | 2, 1 => 6
  | 2, 2 => 8
  | 2, 3 => 1
  | 2, 4 => 100
  | _, _ => 0
def tLn (L t : Nat) : Nat := if t < 3 then 5 else L
def tVl (xs : Nat → Int) (t j : Nat) : Int := if t < 3 then stV t j else xs j
def StOK (nt L : Nat) (xs : Nat → Int) (sA : Nat → Nat) (A : Nat → Prop) (U : State) (H : Heap) : Prop :=
  3 ≤ nt ∧ (∀ t, t < nt → va_X (sA t) (tLn L t) (fun j => zI (tVl xs t j)) U H ∧ sA t < H.size ∧ ¬ A (sA t)) ∧ (∀ t j, inR (tVl xs t j)) ∧ (∀ t, t < 3 → va_Z "SungSlides" (stN t) "[I" (.ref (sA t)) A U H) ∧ va_AO "SungSlides$State" U ∧ ∀ w ∈ nestW, va_Nw w U
/-- where the machine stands -/
def PtOK (R : Room) (s : State) (dC : Nat → ClassId) (dI : Nat → Nat → Nat) (cI cC cS : ClassId) (sA : Nat → Nat) (A : Nat → Prop) (nL n0 S0 : Nat) (ad0 : Nat → Nat) (ad : Nat → Nat) (H : Heap) (locs : List Loc) (cells slots : Nat) (ls : Array Slot) (sv : List Vv) (ρ : En) (M : Mm) : Prop :=
  (va_P (dC, dI) vwCl (wsOf cI cC cS ad M) H ∧ va_D A (wsOf cI cC cS ad M) ∧ va_S A s.heap H locs) ∧ (MOK M ∧ lv_has ls nL (envL ad ρ nL) ∧ (∀ i, i < 1000 → vok M (ρ i)) ∧ ∀ v ∈ sv, vok M v) ∧ ((n0 ≤ M.1.length ∧ ∀ k, k < n0 → ad k = ad0 k) ∧ ∀ t, ad (1000000 + t) = sA t) ∧ M.1.length = n0 + cells ∧ ssum M.1 = S0 + slots ∧ cells ≤ R.cells ∧ slots ≤ R.slots ∧ limC ρ ≤ n0 + R.cells ∧ limS ρ ≤ S0 + R.slots
def Wp (p : Program) (l : Launch) (e : Env) (R : Room) (s : State) (m : MethodId) (args : Array Value) (below : List Frame) (meth : Method) (c : Code) (dC : Nat → ClassId) (dI : Nat → Nat → Nat) (cI cC cS : ClassId) (sA : Nat → Nat) (A : Nat → Prop) (nL n0 S0 : Nat) (ad0 : Nat → Nat) (Q : State → Prop) (pc : Nat) (sv : List Vv) (ρ : En) (M : Mm) : Prop :=
  ∀ (ad : Nat → Nat) (H : Heap) (locs : List Loc) (cells slots : Nat) (ls : Array Slot), PtOK R s dC dI cI cC cS sA A nL n0 S0 ad0 ad H locs cells slots ls sv ρ M → W p l e R s m args below meth c H locs cells slots Q (F0 m pc ls (sv.map (cv ad)))
def CxOK (own : String) (cc : ByteArray) (nL : Nat) (mn : String) (R : Room) (ret : Option FieldType) (nt L : Nat) (xs : Nat → Int) (Rt : Int → Mm → Prop) (p : Program) (l : Launch) (e : Env) (s : State) (m : MethodId) (args : Array Value) (below : List Frame) (meth : Method) (c : Code) (dC : Nat → ClassId) (dI : Nat → Nat → Nat) (cI cC cS : ClassId) (sA : Nat → Nat) (A : Nat → Prop) (n0 S0 : Nat) (ad0 : Nat → Nat) (Q : State → Prop) : Prop :=
  p.tables.exec = Jvm.exec ∧ c.code = cc ∧ c.maxLocals = nL ∧ s.vm.findClass own = some m.cls ∧ (∀ w ∈ gtb, w.before args s = true) ∧ va_K (dC, dI) vwCl (tysOf cI cC cS) s ∧ (∀ q : Nat, s.heap.size ≤ q → A q) ∧ StOK nt L xs sA A s s.heap ∧ meth.name = mn ∧ nL ≤ 1000 ∧
  (∀ (rt : FieldType) (pc : Nat) (x : Int) (ρ : En) (M : Mm), ret = some rt → narrow rt (.int (zI x)) = .int (zI x) → decode cc pc = .ok (.ireturn, 1) → Rt x M → Wp p l e R s m args below meth c dC dI cI cC cS sA A nL n0 S0 ad0 Q pc [.inl x] ρ M) ∧
  (∀ (pc : Nat) (ρ : En) (M : Mm), ret = none → decode cc pc = .ok (.return_, 1) → Rt 0 M → Wp p l e R s m args below meth c dC dI cI cC cS sA A nL n0 S0 ad0 Q pc [] ρ M)
abbrev Gt : Type := Nat → List Vv → En → Mm → Prop
def Mach (own : String) (cc : ByteArray) (nL : Nat) (mn : String) (R : Room) (ret : Option FieldType) (nt L : Nat) (xs : Nat → Int) (Rt : Int → Mm → Prop) (G : Gt) : Prop :=
  ∃ (p : Program) (l : Launch) (e : Env) (s : State) (m : MethodId) (args : Array Value) (below : List Frame) (meth : Method) (c : Code) (dC : Nat → ClassId) (dI : Nat → Nat → Nat) (cI cC cS : ClassId) (sA : Nat → Nat) (A : Nat → Prop) (n0 S0 : Nat) (ad0 : Nat → Nat) (Q : State → Prop),
    CxOK own cc nL mn R ret nt L xs Rt p l e s m args below meth c dC dI cI cC cS sA A n0 S0 ad0 Q ∧ G = Wp p l e R s m args below meth c dC dI cI cC cS sA A nL n0 S0 ad0 Q
/-! ===== a rule an instruction ===== -/
theorem zI_nat (n : Nat) : zI (n : Int) = nI n := Int32.ofInt_eq_ofNat
theorem zI_bmod (z : Int) : zI (z % 4294967296) = zI z := by
  apply Int32.toInt_inj.mp
  unfold zI
  rw [Int32.toInt_ofInt, Int32.toInt_ofInt]
  exact Int.emod_bmod z 4294967296
theorem zI_tn (z : Int) : (zI z).toBitVec.toNat = (z % 4294967296).toNat := by
  have h0 : 0 ≤ z % 4294967296 := by omega
  obtain ⟨n, hn⟩ := Int.eq_ofNat_of_zero_le h0
  rw [← zI_bmod z, hn, zI_nat, pk_tn (by omega)]
  omega
theorem zI_char {x : Int} (h : inR x) : ((zI x).toUInt32 % 65536).toInt32 = zI (x % 65536) := by
  rw [pk_char, zI_tn, ← zI_nat]
  congr 1
  omega
theorem zI_and31 {x : Int} (h : inR x) : zI x &&& zI 31 = zI (x % 32) := by
  rw [pk_and (zI x) (m := zI 31) 5 (by decide), zI_tn, ← zI_nat]
  congr 1
  omega
section RULES
variable {own : String} {cc : ByteArray} {nL : Nat} {mn : String} {R : Room} {ret : Option FieldType} {nt L : Nat} {xs : Nat → Int} {Rt : Int → Mm → Prop} {G : Gt} {pc : Nat} {sv : List Vv} {ρ : En} {M : Mm}
theorem G_iconst (hG : Mach own cc nL mn R ret nt L xs Rt G) {n z : Int} (hdg : decode cc pc = .ok (.iconst n, 1)) (hv : Int32.ofInt n = zI z) (hz : inR z) (k : G (pc + 1) (.inl z :: sv) ρ M) : G pc sv ρ M := by
  obtain ⟨p, l, e, s, m, args, below, meth, c, dC, dI, cI, cC, cS, sA, A, n0, S0, ad0, Q, ⟨hx, hb, hml, hown, hts, hK, hA, hSt, hmn, hnL, hRI, hRV⟩, rfl⟩ := hG
  intro ad H locs cells slots ls hpt
  obtain ⟨⟨hP, hD, hS⟩, ⟨hM, hl, hvr, hvs⟩, ⟨⟨hn0, had0⟩, hsA⟩, hcn, hsn, hcl, hsl, hlc, hls⟩ := hpt
  exact lv_iconst hx hb hdg hv (k ad H locs cells slots ls ⟨⟨hP, hD, hS⟩, ⟨hM, hl, hvr, (List.forall_mem_cons.mpr ⟨hz, hvs⟩)⟩, ⟨⟨hn0, had0⟩, hsA⟩, hcn, hsn, hcl, hsl, hlc, hls⟩)
theorem G_bipush (hG : Mach own cc nL mn R ret nt L xs Rt G) {n z : Int} (hdg : decode cc pc = .ok (.bipush n, 2)) (hv : (Int8.ofInt n).toInt32 = zI z) (hz : inR z) (k : G (pc + 2) (.inl z :: sv) ρ M) : G pc sv ρ M := by
  obtain ⟨p, l, e, s, m, args, below, meth, c, dC, dI, cI, cC, cS, sA, A, n0, S0, ad0, Q, ⟨hx, hb, hml, hown, hts, hK, hA, hSt, hmn, hnL, hRI, hRV⟩, rfl⟩ := hG
  intro ad H locs cells slots ls hpt
  obtain ⟨⟨hP, hD, hS⟩, ⟨hM, hl, hvr, hvs⟩, ⟨⟨hn0, had0⟩, hsA⟩, hcn, hsn, hcl, hsl, hlc, hls⟩ := hpt
  exact lv_bipush hx hb hdg hv (k ad H locs cells slots ls ⟨⟨hP, hD, hS⟩, ⟨hM, hl, hvr, (List.forall_mem_cons.mpr ⟨hz, hvs⟩)⟩, ⟨⟨hn0, had0⟩, hsA⟩, hcn, hsn, hcl, hsl, hlc, hls⟩)
theorem G_sipush (hG : Mach own cc nL mn R ret nt L xs Rt G) {n z : Int} (hdg : decode cc pc = .ok (.sipush n, 3)) (hv : (Int16.ofInt n).toInt32 = zI z) (hz : inR z) (k : G (pc + 3) (.inl z :: sv) ρ M) : G pc sv ρ M := by
  obtain ⟨p, l, e, s, m, args, below, meth, c, dC, dI, cI, cC, cS, sA, A, n0, S0, ad0, Q, ⟨hx, hb, hml, hown, hts, hK, hA, hSt, hmn, hnL, hRI, hRV⟩, rfl⟩ := hG
  intro ad H locs cells slots ls hpt
  obtain ⟨⟨hP, hD, hS⟩, ⟨hM, hl, hvr, hvs⟩, ⟨⟨hn0, had0⟩, hsA⟩, hcn, hsn, hcl, hsl, hlc, hls⟩ := hpt
  exact lv_sipush hx hb hdg hv (k ad H locs cells slots ls ⟨⟨hP, hD, hS⟩, ⟨hM, hl, hvr, (List.forall_mem_cons.mpr ⟨hz, hvs⟩)⟩, ⟨⟨hn0, had0⟩, hsA⟩, hcn, hsn, hcl, hsl, hlc, hls⟩)
theorem G_iload (hG : Mach own cc nL mn R ret nt L xs Rt G) {i : Nat} {z : Int} {ins : Instr} {ln : Nat} (hdg : decode cc pc = .ok (.iload i, 2)) (hi : i < nL) (he : ρ i = .inl z) (k : G (pc + 2) (.inl z :: sv) ρ M) : G pc sv ρ M := by
  obtain ⟨p, l, e, s, m, args, below, meth, c, dC, dI, cI, cC, cS, sA, A, n0, S0, ad0, Q, ⟨hx, hb, hml, hown, hts, hK, hA, hSt, hmn, hnL, hRI, hRV⟩, rfl⟩ := hG
  intro ad H locs cells slots ls hpt
  obtain ⟨⟨hP, hD, hS⟩, ⟨hM, hl, hvr, hvs⟩, ⟨⟨hn0, had0⟩, hsA⟩, hcn, hsn, hcl, hsl, hlc, hls⟩ := hpt
  have hz : vok M (.inl z) := by rw [← he]; exact hvr i (by omega)
  exact lv_iload hx hb hdg (env_at hl hi he (fun h => by cases h)) (k ad H locs cells slots ls ⟨⟨hP, hD, hS⟩, ⟨hM, hl, hvr, (List.forall_mem_cons.mpr ⟨hz, hvs⟩)⟩, ⟨⟨hn0, had0⟩, hsA⟩, hcn, hsn, hcl, hsl, hlc, hls⟩)
theorem G_iload_n (hG : Mach own cc nL mn R ret nt L xs Rt G) {j : Fin 4} {i : Nat} {z : Int} (hdg : decode cc pc = .ok (.iload_n j, 1)) (hj : (j : Nat) = i) (hi : i < nL) (he : ρ i = .inl z) (k : G (pc + 1) (.inl z :: sv) ρ M) : G pc sv ρ M := by
  obtain ⟨p, l, e, s, m, args, below, meth, c, dC, dI, cI, cC, cS, sA, A, n0, S0, ad0, Q, ⟨hx, hb, hml, hown, hts, hK, hA, hSt, hmn, hnL, hRI, hRV⟩, rfl⟩ := hG
  intro ad H locs cells slots ls hpt
  obtain ⟨⟨hP, hD, hS⟩, ⟨hM, hl, hvr, hvs⟩, ⟨⟨hn0, had0⟩, hsA⟩, hcn, hsn, hcl, hsl, hlc, hls⟩ := hpt
  have hz : vok M (.inl z) := by rw [← he]; exact hvr i (by omega)
  exact lv_iload_n hx hb hdg hj (env_at hl hi he (fun h => by cases h)) (k ad H locs cells slots ls ⟨⟨hP, hD, hS⟩, ⟨hM, hl, hvr, (List.forall_mem_cons.mpr ⟨hz, hvs⟩)⟩, ⟨⟨hn0, had0⟩, hsA⟩, hcn, hsn, hcl, hsl, hlc, hls⟩)
theorem G_aload (hG : Mach own cc nL mn R ret nt L xs Rt G) {i : Nat} {q : Nat} (hdg : decode cc pc = .ok (.aload i, 2)) (hi : i < nL) (he : ρ i = .inr (some q)) (k : G (pc + 2) (.inr (some q) :: sv) ρ M) : G pc sv ρ M := by
  obtain ⟨p, l, e, s, m, args, below, meth, c, dC, dI, cI, cC, cS, sA, A, n0, S0, ad0, Q, ⟨hx, hb, hml, hown, hts, hK, hA, hSt, hmn, hnL, hRI, hRV⟩, rfl⟩ := hG
  intro ad H locs cells slots ls hpt
  obtain ⟨⟨hP, hD, hS⟩, ⟨hM, hl, hvr, hvs⟩, ⟨⟨hn0, had0⟩, hsA⟩, hcn, hsn, hcl, hsl, hlc, hls⟩ := hpt
  have hz : vok M (.inr (some q)) := by rw [← he]; exact hvr i (by omega)
  exact lv_aload hx hb hdg (env_at hl hi he (fun h => by cases h)) (k ad H locs cells slots ls ⟨⟨hP, hD, hS⟩, ⟨hM, hl, hvr, (List.forall_mem_cons.mpr ⟨hz, hvs⟩)⟩, ⟨⟨hn0, had0⟩, hsA⟩, hcn, hsn, hcl, hsl, hlc, hls⟩)
theorem G_aload_n (hG : Mach own cc nL mn R ret nt L xs Rt G) {j : Fin 4} {i : Nat} {q : Nat} (hdg : decode cc pc = .ok (.aload_n j, 1)) (hj : (j : Nat) = i) (hi : i < nL) (he : ρ i = .inr (some q)) (k : G (pc + 1) (.inr (some q) :: sv) ρ M) : G pc sv ρ M := by
  obtain ⟨p, l, e, s, m, args, below, meth, c, dC, dI, cI, cC, cS, sA, A, n0, S0, ad0, Q, ⟨hx, hb, hml, hown, hts, hK, hA, hSt, hmn, hnL, hRI, hRV⟩, rfl⟩ := hG
  intro ad H locs cells slots ls hpt
  obtain ⟨⟨hP, hD, hS⟩, ⟨hM, hl, hvr, hvs⟩, ⟨⟨hn0, had0⟩, hsA⟩, hcn, hsn, hcl, hsl, hlc, hls⟩ := hpt
  have hz : vok M (.inr (some q)) := by rw [← he]; exact hvr i (by omega)
  exact lv_aload_n hx hb hdg hj (env_at hl hi he (fun h => by cases h)) (k ad H locs cells slots ls ⟨⟨hP, hD, hS⟩, ⟨hM, hl, hvr, (List.forall_mem_cons.mpr ⟨hz, hvs⟩)⟩, ⟨⟨hn0, had0⟩, hsA⟩, hcn, hsn, hcl, hsl, hlc, hls⟩)
theorem G_istore (hG : Mach own cc nL mn R ret nt L xs Rt G) {i : Nat} {z : Int} (hdg : decode cc pc = .ok (.istore i, 2)) (hi : i < nL) (k : G (pc + 2) sv (va_up ρ i (.inl z)) M) : G pc (.inl z :: sv) ρ M := by
  obtain ⟨p, l, e, s, m, args, below, meth, c, dC, dI, cI, cC, cS, sA, A, n0, S0, ad0, Q, ⟨hx, hb, hml, hown, hts, hK, hA, hSt, hmn, hnL, hRI, hRV⟩, rfl⟩ := hG
  intro ad H locs cells slots ls hpt
  obtain ⟨⟨hP, hD, hS⟩, ⟨hM, hl, hvr, hvs⟩, ⟨⟨hn0, had0⟩, hsA⟩, hcn, hsn, hcl, hsl, hlc, hls⟩ := hpt
  refine lv_istore hx hb hdg hl hi rfl (fun ls1 hl1 => k ad H locs cells slots ls1 ⟨⟨hP, hD, hS⟩, ⟨hM, env_put hl1, (fun i2 h2 => by
      by_cases h : i2 = i
      · subst h; rw [va_up_self]; exact (hvs _ List.mem_cons_self)
      · rw [va_up_ne _ _ h]; exact hvr i2 h2), (fun v hv => hvs v (List.mem_cons_of_mem _ hv))⟩, ⟨⟨hn0, had0⟩, hsA⟩, hcn, hsn, hcl, hsl, by rw [limC_up (by omega)]; exact hlc, by rw [limS_up (by omega)]; exact hls⟩)
theorem G_istore_n (hG : Mach own cc nL mn R ret nt L xs Rt G) {j : Fin 4} {i : Nat} {z : Int} (hdg : decode cc pc = .ok (.istore_n j, 1)) (hj : (j : Nat) = i) (hi : i < nL) (k : G (pc + 1) sv (va_up ρ i (.inl z)) M) : G pc (.inl z :: sv) ρ M := by
  obtain ⟨p, l, e, s, m, args, below, meth, c, dC, dI, cI, cC, cS, sA, A, n0, S0, ad0, Q, ⟨hx, hb, hml, hown, hts, hK, hA, hSt, hmn, hnL, hRI, hRV⟩, rfl⟩ := hG
  intro ad H locs cells slots ls hpt
  obtain ⟨⟨hP, hD, hS⟩, ⟨hM, hl, hvr, hvs⟩, ⟨⟨hn0, had0⟩, hsA⟩, hcn, hsn, hcl, hsl, hlc, hls⟩ := hpt
  refine lv_istore_n hx hb hdg hj hl hi rfl (fun ls1 hl1 => k ad H locs cells slots ls1 ⟨⟨hP, hD, hS⟩, ⟨hM, env_put hl1, (fun i2 h2 => by
      by_cases h : i2 = i
      · subst h; rw [va_up_self]; exact (hvs _ List.mem_cons_self)
      · rw [va_up_ne _ _ h]; exact hvr i2 h2), (fun v hv => hvs v (List.mem_cons_of_mem _ hv))⟩, ⟨⟨hn0, had0⟩, hsA⟩, hcn, hsn, hcl, hsl, by rw [limC_up (by omega)]; exact hlc, by rw [limS_up (by omega)]; exact hls⟩)
theorem G_astore (hG : Mach own cc nL mn R ret nt L xs Rt G) {i : Nat} {q : Nat} (hdg : decode cc pc = .ok (.astore i, 2)) (hi : i < nL) (k : G (pc + 2) sv (va_up ρ i (.inr (some q))) M) : G pc (.inr (some q) :: sv) ρ M := by
  obtain ⟨p, l, e, s, m, args, below, meth, c, dC, dI, cI, cC, cS, sA, A, n0, S0, ad0, Q, ⟨hx, hb, hml, hown, hts, hK, hA, hSt, hmn, hnL, hRI, hRV⟩, rfl⟩ := hG
  intro ad H locs cells slots ls hpt
  obtain ⟨⟨hP, hD, hS⟩, ⟨hM, hl, hvr, hvs⟩, ⟨⟨hn0, had0⟩, hsA⟩, hcn, hsn, hcl, hsl, hlc, hls⟩ := hpt
  refine lv_astore hx hb hdg hl hi rfl (fun ls1 hl1 => k ad H locs cells slots ls1 ⟨⟨hP, hD, hS⟩, ⟨hM, env_put hl1, (fun i2 h2 => by
      by_cases h : i2 = i
      · subst h; rw [va_up_self]; exact (hvs _ List.mem_cons_self)
      · rw [va_up_ne _ _ h]; exact hvr i2 h2), (fun v hv => hvs v (List.mem_cons_of_mem _ hv))⟩, ⟨⟨hn0, had0⟩, hsA⟩, hcn, hsn, hcl, hsl, by rw [limC_up (by omega)]; exact hlc, by rw [limS_up (by omega)]; exact hls⟩)
theorem G_astore_n (hG : Mach own cc nL mn R ret nt L xs Rt G) {j : Fin 4} {i : Nat} {q : Nat} (hdg : decode cc pc = .ok (.astore_n j, 1)) (hj : (j : Nat) = i) (hi : i < nL) (k : G (pc + 1) sv (va_up ρ i (.inr (some q))) M) : G pc (.inr (some q) :: sv) ρ M := by
  obtain ⟨p, l, e, s, m, args, below, meth, c, dC, dI, cI, cC, cS, sA, A, n0, S0, ad0, Q, ⟨hx, hb, hml, hown, hts, hK, hA, hSt, hmn, hnL, hRI, hRV⟩, rfl⟩ := hG
  intro ad H locs cells slots ls hpt
  obtain ⟨⟨hP, hD, hS⟩, ⟨hM, hl, hvr, hvs⟩, ⟨⟨hn0, had0⟩, hsA⟩, hcn, hsn, hcl, hsl, hlc, hls⟩ := hpt
  refine lv_astore_n hx hb hdg hj hl hi rfl (fun ls1 hl1 => k ad H locs cells slots ls1 ⟨⟨hP, hD, hS⟩, ⟨hM, env_put hl1, (fun i2 h2 => by
      by_cases h : i2 = i
      · subst h; rw [va_up_self]; exact (hvs _ List.mem_cons_self)
      · rw [va_up_ne _ _ h]; exact hvr i2 h2), (fun v hv => hvs v (List.mem_cons_of_mem _ hv))⟩, ⟨⟨hn0, had0⟩, hsA⟩, hcn, hsn, hcl, hsl, by rw [limC_up (by omega)]; exact hlc, by rw [limS_up (by omega)]; exact hls⟩)
theorem G_iinc (hG : Mach own cc nL mn R ret nt L xs Rt G) {i : Nat} {n z : Int} (hdg : decode cc pc = .ok (.iinc i n, 3)) (hi : i < nL) (he : ρ i = .inl z) (hz : inR (z + n)) (k : G (pc + 3) sv (va_up ρ i (.inl (z + n))) M) : G pc sv ρ M := by
  obtain ⟨p, l, e, s, m, args, below, meth, c, dC, dI, cI, cC, cS, sA, A, n0, S0, ad0, Q, ⟨hx, hb, hml, hown, hts, hK, hA, hSt, hmn, hnL, hRI, hRV⟩, rfl⟩ := hG
  intro ad H locs cells slots ls hpt
  obtain ⟨⟨hP, hD, hS⟩, ⟨hM, hl, hvr, hvs⟩, ⟨⟨hn0, had0⟩, hsA⟩, hcn, hsn, hcl, hsl, hlc, hls⟩ := hpt
  have hmem : (i, cv ad (.inl z)) ∈ envL ad ρ nL := List.mem_filterMap.mpr ⟨i, List.mem_range.mpr hi, envF_of he (fun h => by cases h)⟩
  obtain ⟨k0, hk0⟩ := List.getElem?_of_mem hmem
  refine lv_iinc (v := zI (z + n)) hx hb hdg hl hk0 (zI_add z n) hi rfl (fun ls1 hl1 => k ad H locs cells slots ls1 ⟨⟨hP, hD, hS⟩, ⟨hM, env_put (v := .inl (z + n)) hl1, (fun i2 h2 => by
      by_cases h : i2 = i
      · subst h; rw [va_up_self]; exact hz
      · rw [va_up_ne _ _ h]; exact hvr i2 h2), hvs⟩, ⟨⟨hn0, had0⟩, hsA⟩, hcn, hsn, hcl, hsl, by rw [limC_up (by omega)]; exact hlc, by rw [limS_up (by omega)]; exact hls⟩)
theorem G_iadd (hG : Mach own cc nL mn R ret nt L xs Rt G) {x y : Int} (hdg : decode cc pc = .ok (.iadd, 1)) (hz : inR (x + y)) (k : G (pc + 1) (.inl (x + y) :: sv) ρ M) : G pc (.inl y :: .inl x :: sv) ρ M := by
  obtain ⟨p, l, e, s, m, args, below, meth, c, dC, dI, cI, cC, cS, sA, A, n0, S0, ad0, Q, ⟨hx, hb, hml, hown, hts, hK, hA, hSt, hmn, hnL, hRI, hRV⟩, rfl⟩ := hG
  intro ad H locs cells slots ls hpt
  obtain ⟨⟨hP, hD, hS⟩, ⟨hM, hl, hvr, hvs⟩, ⟨⟨hn0, had0⟩, hsA⟩, hcn, hsn, hcl, hsl, hlc, hls⟩ := hpt
  refine lv_iadd hx hb hdg ?_
  rw [zI_add]
  exact k ad H locs cells slots ls ⟨⟨hP, hD, hS⟩, ⟨hM, hl, hvr, (List.forall_mem_cons.mpr ⟨hz, (fun v hv => hvs v (List.mem_cons_of_mem _ (List.mem_cons_of_mem _ hv)))⟩)⟩, ⟨⟨hn0, had0⟩, hsA⟩, hcn, hsn, hcl, hsl, hlc, hls⟩
theorem G_isub (hG : Mach own cc nL mn R ret nt L xs Rt G) {x y : Int} (hdg : decode cc pc = .ok (.isub, 1)) (hz : inR (x - y)) (k : G (pc + 1) (.inl (x - y) :: sv) ρ M) : G pc (.inl y :: .inl x :: sv) ρ M := by
  obtain ⟨p, l, e, s, m, args, below, meth, c, dC, dI, cI, cC, cS, sA, A, n0, S0, ad0, Q, ⟨hx, hb, hml, hown, hts, hK, hA, hSt, hmn, hnL, hRI, hRV⟩, rfl⟩ := hG
  intro ad H locs cells slots ls hpt
  obtain ⟨⟨hP, hD, hS⟩, ⟨hM, hl, hvr, hvs⟩, ⟨⟨hn0, had0⟩, hsA⟩, hcn, hsn, hcl, hsl, hlc, hls⟩ := hpt
  refine lv_isub hx hb hdg ?_
  rw [zI_sub]
  exact k ad H locs cells slots ls ⟨⟨hP, hD, hS⟩, ⟨hM, hl, hvr, (List.forall_mem_cons.mpr ⟨hz, (fun v hv => hvs v (List.mem_cons_of_mem _ (List.mem_cons_of_mem _ hv)))⟩)⟩, ⟨⟨hn0, had0⟩, hsA⟩, hcn, hsn, hcl, hsl, hlc, hls⟩
theorem G_imul (hG : Mach own cc nL mn R ret nt L xs Rt G) {x y : Int} (hdg : decode cc pc = .ok (.imul, 1)) (hz : inR (x * y)) (k : G (pc + 1) (.inl (x * y) :: sv) ρ M) : G pc (.inl y :: .inl x :: sv) ρ M := by
  obtain ⟨p, l, e, s, m, args, below, meth, c, dC, dI, cI, cC, cS, sA, A, n0, S0, ad0, Q, ⟨hx, hb, hml, hown, hts, hK, hA, hSt, hmn, hnL, hRI, hRV⟩, rfl⟩ := hG
  intro ad H locs cells slots ls hpt
  obtain ⟨⟨hP, hD, hS⟩, ⟨hM, hl, hvr, hvs⟩, ⟨⟨hn0, had0⟩, hsA⟩, hcn, hsn, hcl, hsl, hlc, hls⟩ := hpt
  refine lv_imul hx hb hdg ?_
  rw [zI_mul]
  exact k ad H locs cells slots ls ⟨⟨hP, hD, hS⟩, ⟨hM, hl, hvr, (List.forall_mem_cons.mpr ⟨hz, (fun v hv => hvs v (List.mem_cons_of_mem _ (List.mem_cons_of_mem _ hv)))⟩)⟩, ⟨⟨hn0, had0⟩, hsA⟩, hcn, hsn, hcl, hsl, hlc, hls⟩
theorem G_idiv (hG : Mach own cc nL mn R ret nt L xs Rt G) {x y : Int} (hdg : decode cc pc = .ok (.idiv, 1)) (hy : y ≠ 0) (hz : inR (x.tdiv y)) (k : G (pc + 1) (.inl (x.tdiv y) :: sv) ρ M) : G pc (.inl y :: .inl x :: sv) ρ M := by
  obtain ⟨p, l, e, s, m, args, below, meth, c, dC, dI, cI, cC, cS, sA, A, n0, S0, ad0, Q, ⟨hx, hb, hml, hown, hts, hK, hA, hSt, hmn, hnL, hRI, hRV⟩, rfl⟩ := hG
  intro ad H locs cells slots ls hpt
  obtain ⟨⟨hP, hD, hS⟩, ⟨hM, hl, hvr, hvs⟩, ⟨⟨hn0, had0⟩, hsA⟩, hcn, hsn, hcl, hsl, hlc, hls⟩ := hpt
  have hxr : inR x := (hvs _ (List.mem_cons_of_mem _ List.mem_cons_self))
  have hyr : inR y := (hvs _ List.mem_cons_self)
  refine lv_idiv hx hb hdg (fun h => hy ((zI_inj hyr inR_0).mp (h.trans zI_0.symm))) ?_
  rw [zI_div hxr hyr]
  exact k ad H locs cells slots ls ⟨⟨hP, hD, hS⟩, ⟨hM, hl, hvr, (List.forall_mem_cons.mpr ⟨hz, (fun v hv => hvs v (List.mem_cons_of_mem _ (List.mem_cons_of_mem _ hv)))⟩)⟩, ⟨⟨hn0, had0⟩, hsA⟩, hcn, hsn, hcl, hsl, hlc, hls⟩
theorem G_irem (hG : Mach own cc nL mn R ret nt L xs Rt G) {x y : Int} (hdg : decode cc pc = .ok (.irem, 1)) (hy : y ≠ 0) (hz : inR (x.tmod y)) (k : G (pc + 1) (.inl (x.tmod y) :: sv) ρ M) : G pc (.inl y :: .inl x :: sv) ρ M := by
  obtain ⟨p, l, e, s, m, args, below, meth, c, dC, dI, cI, cC, cS, sA, A, n0, S0, ad0, Q, ⟨hx, hb, hml, hown, hts, hK, hA, hSt, hmn, hnL, hRI, hRV⟩, rfl⟩ := hG
  intro ad H locs cells slots ls hpt
  obtain ⟨⟨hP, hD, hS⟩, ⟨hM, hl, hvr, hvs⟩, ⟨⟨hn0, had0⟩, hsA⟩, hcn, hsn, hcl, hsl, hlc, hls⟩ := hpt
  have hxr : inR x := (hvs _ (List.mem_cons_of_mem _ List.mem_cons_self))
  have hyr : inR y := (hvs _ List.mem_cons_self)
  refine lv_irem hx hb hdg (fun h => hy ((zI_inj hyr inR_0).mp (h.trans zI_0.symm))) ?_
  rw [zI_rem hxr hyr]
  exact k ad H locs cells slots ls ⟨⟨hP, hD, hS⟩, ⟨hM, hl, hvr, (List.forall_mem_cons.mpr ⟨hz, (fun v hv => hvs v (List.mem_cons_of_mem _ (List.mem_cons_of_mem _ hv)))⟩)⟩, ⟨⟨hn0, had0⟩, hsA⟩, hcn, hsn, hcl, hsl, hlc, hls⟩
theorem G_ineg (hG : Mach own cc nL mn R ret nt L xs Rt G) {x : Int} (hdg : decode cc pc = .ok (.ineg, 1)) (hz : inR (-x)) (k : G (pc + 1) (.inl (-x) :: sv) ρ M) : G pc (.inl x :: sv) ρ M := by
  obtain ⟨p, l, e, s, m, args, below, meth, c, dC, dI, cI, cC, cS, sA, A, n0, S0, ad0, Q, ⟨hx, hb, hml, hown, hts, hK, hA, hSt, hmn, hnL, hRI, hRV⟩, rfl⟩ := hG
  intro ad H locs cells slots ls hpt
  obtain ⟨⟨hP, hD, hS⟩, ⟨hM, hl, hvr, hvs⟩, ⟨⟨hn0, had0⟩, hsA⟩, hcn, hsn, hcl, hsl, hlc, hls⟩ := hpt
  refine lv_ineg hx hb hdg ?_
  rw [zI_neg]
  exact k ad H locs cells slots ls ⟨⟨hP, hD, hS⟩, ⟨hM, hl, hvr, (List.forall_mem_cons.mpr ⟨hz, (fun v hv => hvs v (List.mem_cons_of_mem _ hv))⟩)⟩, ⟨⟨hn0, had0⟩, hsA⟩, hcn, hsn, hcl, hsl, hlc, hls⟩
theorem G_if_eq (hG : Mach own cc nL mn R ret nt L xs Rt G) {x off : Int} {tgt : Nat} (hdg : decode cc pc = .ok (.ifCond .eq off, 3)) (ht : (pc : Int) + off = (tgt : Int)) (kt : x = 0 → G tgt sv ρ M) (kf : ¬ (x = 0) → G (pc + 3) sv ρ M) : G pc (.inl x :: sv) ρ M := by
  obtain ⟨p, l, e, s, m, args, below, meth, c, dC, dI, cI, cC, cS, sA, A, n0, S0, ad0, Q, ⟨hx, hb, hml, hown, hts, hK, hA, hSt, hmn, hnL, hRI, hRV⟩, rfl⟩ := hG
  intro ad H locs cells slots ls hpt
  obtain ⟨⟨hP, hD, hS⟩, ⟨hM, hl, hvr, hvs⟩, ⟨⟨hn0, had0⟩, hsA⟩, hcn, hsn, hcl, hsl, hlc, hls⟩ := hpt
  have hxr : inR x := (hvs _ List.mem_cons_self)
  have hc := (zI_inj hxr inR_0)
  rw [zI_0] at hc
  exact lv_if_eq hx hb hdg ht (fun h => kt (hc.mp h) ad H locs cells slots ls ⟨⟨hP, hD, hS⟩, ⟨hM, hl, hvr, (fun v hv => hvs v (List.mem_cons_of_mem _ hv))⟩, ⟨⟨hn0, had0⟩, hsA⟩, hcn, hsn, hcl, hsl, hlc, hls⟩) (fun h => kf (fun h2 => h (hc.mpr h2)) ad H locs cells slots ls ⟨⟨hP, hD, hS⟩, ⟨hM, hl, hvr, (fun v hv => hvs v (List.mem_cons_of_mem _ hv))⟩, ⟨⟨hn0, had0⟩, hsA⟩, hcn, hsn, hcl, hsl, hlc, hls⟩)
theorem G_if_ne (hG : Mach own cc nL mn R ret nt L xs Rt G) {x off : Int} {tgt : Nat} (hdg : decode cc pc = .ok (.ifCond .ne off, 3)) (ht : (pc : Int) + off = (tgt : Int)) (kt : x ≠ 0 → G tgt sv ρ M) (kf : ¬ (x ≠ 0) → G (pc + 3) sv ρ M) : G pc (.inl x :: sv) ρ M := by
  obtain ⟨p, l, e, s, m, args, below, meth, c, dC, dI, cI, cC, cS, sA, A, n0, S0, ad0, Q, ⟨hx, hb, hml, hown, hts, hK, hA, hSt, hmn, hnL, hRI, hRV⟩, rfl⟩ := hG
  intro ad H locs cells slots ls hpt
  obtain ⟨⟨hP, hD, hS⟩, ⟨hM, hl, hvr, hvs⟩, ⟨⟨hn0, had0⟩, hsA⟩, hcn, hsn, hcl, hsl, hlc, hls⟩ := hpt
  have hxr : inR x := (hvs _ List.mem_cons_self)
  have hc := (not_congr (zI_inj hxr inR_0))
  rw [zI_0] at hc
  exact lv_if_ne hx hb hdg ht (fun h => kt (hc.mp h) ad H locs cells slots ls ⟨⟨hP, hD, hS⟩, ⟨hM, hl, hvr, (fun v hv => hvs v (List.mem_cons_of_mem _ hv))⟩, ⟨⟨hn0, had0⟩, hsA⟩, hcn, hsn, hcl, hsl, hlc, hls⟩) (fun h => kf (fun h2 => hc.mpr h2 h) ad H locs cells slots ls ⟨⟨hP, hD, hS⟩, ⟨hM, hl, hvr, (fun v hv => hvs v (List.mem_cons_of_mem _ hv))⟩, ⟨⟨hn0, had0⟩, hsA⟩, hcn, hsn, hcl, hsl, hlc, hls⟩)
theorem G_if_lt (hG : Mach own cc nL mn R ret nt L xs Rt G) {x off : Int} {tgt : Nat} (hdg : decode cc pc = .ok (.ifCond .lt off, 3)) (ht : (pc : Int) + off = (tgt : Int)) (kt : x < 0 → G tgt sv ρ M) (kf : ¬ (x < 0) → G (pc + 3) sv ρ M) : G pc (.inl x :: sv) ρ M := by
  obtain ⟨p, l, e, s, m, args, below, meth, c, dC, dI, cI, cC, cS, sA, A, n0, S0, ad0, Q, ⟨hx, hb, hml, hown, hts, hK, hA, hSt, hmn, hnL, hRI, hRV⟩, rfl⟩ := hG
  intro ad H locs cells slots ls hpt
  obtain ⟨⟨hP, hD, hS⟩, ⟨hM, hl, hvr, hvs⟩, ⟨⟨hn0, had0⟩, hsA⟩, hcn, hsn, hcl, hsl, hlc, hls⟩ := hpt
  have hxr : inR x := (hvs _ List.mem_cons_self)
  have hc := (zI_lt hxr inR_0)
  rw [zI_0] at hc
  exact lv_if_lt hx hb hdg ht (fun h => kt (hc.mp h) ad H locs cells slots ls ⟨⟨hP, hD, hS⟩, ⟨hM, hl, hvr, (fun v hv => hvs v (List.mem_cons_of_mem _ hv))⟩, ⟨⟨hn0, had0⟩, hsA⟩, hcn, hsn, hcl, hsl, hlc, hls⟩) (fun h => kf (fun h2 => h (hc.mpr h2)) ad H locs cells slots ls ⟨⟨hP, hD, hS⟩, ⟨hM, hl, hvr, (fun v hv => hvs v (List.mem_cons_of_mem _ hv))⟩, ⟨⟨hn0, had0⟩, hsA⟩, hcn, hsn, hcl, hsl, hlc, hls⟩)
theorem G_if_ge (hG : Mach own cc nL mn R ret nt L xs Rt G) {x off : Int} {tgt : Nat} (hdg : decode cc pc = .ok (.ifCond .ge off, 3)) (ht : (pc : Int) + off = (tgt : Int)) (kt : 0 ≤ x → G tgt sv ρ M) (kf : ¬ (0 ≤ x) → G (pc + 3) sv ρ M) : G pc (.inl x :: sv) ρ M := by
  obtain ⟨p, l, e, s, m, args, below, meth, c, dC, dI, cI, cC, cS, sA, A, n0, S0, ad0, Q, ⟨hx, hb, hml, hown, hts, hK, hA, hSt, hmn, hnL, hRI, hRV⟩, rfl⟩ := hG
  intro ad H locs cells slots ls hpt
  obtain ⟨⟨hP, hD, hS⟩, ⟨hM, hl, hvr, hvs⟩, ⟨⟨hn0, had0⟩, hsA⟩, hcn, hsn, hcl, hsl, hlc, hls⟩ := hpt
  have hxr : inR x := (hvs _ List.mem_cons_self)
  have hc := (zI_le inR_0 hxr)
  rw [zI_0] at hc
  exact lv_if_ge hx hb hdg ht (fun h => kt (hc.mp h) ad H locs cells slots ls ⟨⟨hP, hD, hS⟩, ⟨hM, hl, hvr, (fun v hv => hvs v (List.mem_cons_of_mem _ hv))⟩, ⟨⟨hn0, had0⟩, hsA⟩, hcn, hsn, hcl, hsl, hlc, hls⟩) (fun h => kf (fun h2 => h (hc.mpr h2)) ad H locs cells slots ls ⟨⟨hP, hD, hS⟩, ⟨hM, hl, hvr, (fun v hv => hvs v (List.mem_cons_of_mem _ hv))⟩, ⟨⟨hn0, had0⟩, hsA⟩, hcn, hsn, hcl, hsl, hlc, hls⟩)
theorem G_if_gt (hG : Mach own cc nL mn R ret nt L xs Rt G) {x off : Int} {tgt : Nat} (hdg : decode cc pc = .ok (.ifCond .gt off, 3)) (ht : (pc : Int) + off = (tgt : Int)) (kt : 0 < x → G tgt sv ρ M) (kf : ¬ (0 < x) → G (pc + 3) sv ρ M) : G pc (.inl x :: sv) ρ M := by
  obtain ⟨p, l, e, s, m, args, below, meth, c, dC, dI, cI, cC, cS, sA, A, n0, S0, ad0, Q, ⟨hx, hb, hml, hown, hts, hK, hA, hSt, hmn, hnL, hRI, hRV⟩, rfl⟩ := hG
  intro ad H locs cells slots ls hpt
  obtain ⟨⟨hP, hD, hS⟩, ⟨hM, hl, hvr, hvs⟩, ⟨⟨hn0, had0⟩, hsA⟩, hcn, hsn, hcl, hsl, hlc, hls⟩ := hpt
  have hxr : inR x := (hvs _ List.mem_cons_self)
  have hc := (zI_lt inR_0 hxr)
  rw [zI_0] at hc
  exact lv_if_gt hx hb hdg ht (fun h => kt (hc.mp h) ad H locs cells slots ls ⟨⟨hP, hD, hS⟩, ⟨hM, hl, hvr, (fun v hv => hvs v (List.mem_cons_of_mem _ hv))⟩, ⟨⟨hn0, had0⟩, hsA⟩, hcn, hsn, hcl, hsl, hlc, hls⟩) (fun h => kf (fun h2 => h (hc.mpr h2)) ad H locs cells slots ls ⟨⟨hP, hD, hS⟩, ⟨hM, hl, hvr, (fun v hv => hvs v (List.mem_cons_of_mem _ hv))⟩, ⟨⟨hn0, had0⟩, hsA⟩, hcn, hsn, hcl, hsl, hlc, hls⟩)
theorem G_if_le (hG : Mach own cc nL mn R ret nt L xs Rt G) {x off : Int} {tgt : Nat} (hdg : decode cc pc = .ok (.ifCond .le off, 3)) (ht : (pc : Int) + off = (tgt : Int)) (kt : x ≤ 0 → G tgt sv ρ M) (kf : ¬ (x ≤ 0) → G (pc + 3) sv ρ M) : G pc (.inl x :: sv) ρ M := by
  obtain ⟨p, l, e, s, m, args, below, meth, c, dC, dI, cI, cC, cS, sA, A, n0, S0, ad0, Q, ⟨hx, hb, hml, hown, hts, hK, hA, hSt, hmn, hnL, hRI, hRV⟩, rfl⟩ := hG
  intro ad H locs cells slots ls hpt
  obtain ⟨⟨hP, hD, hS⟩, ⟨hM, hl, hvr, hvs⟩, ⟨⟨hn0, had0⟩, hsA⟩, hcn, hsn, hcl, hsl, hlc, hls⟩ := hpt
  have hxr : inR x := (hvs _ List.mem_cons_self)
  have hc := (zI_le hxr inR_0)
  rw [zI_0] at hc
  exact lv_if_le hx hb hdg ht (fun h => kt (hc.mp h) ad H locs cells slots ls ⟨⟨hP, hD, hS⟩, ⟨hM, hl, hvr, (fun v hv => hvs v (List.mem_cons_of_mem _ hv))⟩, ⟨⟨hn0, had0⟩, hsA⟩, hcn, hsn, hcl, hsl, hlc, hls⟩) (fun h => kf (fun h2 => h (hc.mpr h2)) ad H locs cells slots ls ⟨⟨hP, hD, hS⟩, ⟨hM, hl, hvr, (fun v hv => hvs v (List.mem_cons_of_mem _ hv))⟩, ⟨⟨hn0, had0⟩, hsA⟩, hcn, hsn, hcl, hsl, hlc, hls⟩)
theorem G_icmp_eq (hG : Mach own cc nL mn R ret nt L xs Rt G) {x y off : Int} {tgt : Nat} (hdg : decode cc pc = .ok (.if_icmp .eq off, 3)) (ht : (pc : Int) + off = (tgt : Int)) (kt : x = y → G tgt sv ρ M) (kf : ¬ (x = y) → G (pc + 3) sv ρ M) : G pc (.inl y :: .inl x :: sv) ρ M := by
  obtain ⟨p, l, e, s, m, args, below, meth, c, dC, dI, cI, cC, cS, sA, A, n0, S0, ad0, Q, ⟨hx, hb, hml, hown, hts, hK, hA, hSt, hmn, hnL, hRI, hRV⟩, rfl⟩ := hG
  intro ad H locs cells slots ls hpt
  obtain ⟨⟨hP, hD, hS⟩, ⟨hM, hl, hvr, hvs⟩, ⟨⟨hn0, had0⟩, hsA⟩, hcn, hsn, hcl, hsl, hlc, hls⟩ := hpt
  have hyr : inR y := (hvs _ List.mem_cons_self)
  have hxr : inR x := (hvs _ (List.mem_cons_of_mem _ List.mem_cons_self))
  have hc := (zI_inj hxr hyr)
  exact lv_icmp_eq hx hb hdg ht (fun h => kt (hc.mp h) ad H locs cells slots ls ⟨⟨hP, hD, hS⟩, ⟨hM, hl, hvr, (fun v hv => hvs v (List.mem_cons_of_mem _ (List.mem_cons_of_mem _ hv)))⟩, ⟨⟨hn0, had0⟩, hsA⟩, hcn, hsn, hcl, hsl, hlc, hls⟩) (fun h => kf (fun h2 => h (hc.mpr h2)) ad H locs cells slots ls ⟨⟨hP, hD, hS⟩, ⟨hM, hl, hvr, (fun v hv => hvs v (List.mem_cons_of_mem _ (List.mem_cons_of_mem _ hv)))⟩, ⟨⟨hn0, had0⟩, hsA⟩, hcn, hsn, hcl, hsl, hlc, hls⟩)
theorem G_icmp_ne (hG : Mach own cc nL mn R ret nt L xs Rt G) {x y off : Int} {tgt : Nat} (hdg : decode cc pc = .ok (.if_icmp .ne off, 3)) (ht : (pc : Int) + off = (tgt : Int)) (kt : x ≠ y → G tgt sv ρ M) (kf : ¬ (x ≠ y) → G (pc + 3) sv ρ M) : G pc (.inl y :: .inl x :: sv) ρ M := by
  obtain ⟨p, l, e, s, m, args, below, meth, c, dC, dI, cI, cC, cS, sA, A, n0, S0, ad0, Q, ⟨hx, hb, hml, hown, hts, hK, hA, hSt, hmn, hnL, hRI, hRV⟩, rfl⟩ := hG
  intro ad H locs cells slots ls hpt
  obtain ⟨⟨hP, hD, hS⟩, ⟨hM, hl, hvr, hvs⟩, ⟨⟨hn0, had0⟩, hsA⟩, hcn, hsn, hcl, hsl, hlc, hls⟩ := hpt
  have hyr : inR y := (hvs _ List.mem_cons_self)
  have hxr : inR x := (hvs _ (List.mem_cons_of_mem _ List.mem_cons_self))
  have hc := (not_congr (zI_inj hxr hyr))
  exact lv_icmp_ne hx hb hdg ht (fun h => kt (hc.mp h) ad H locs cells slots ls ⟨⟨hP, hD, hS⟩, ⟨hM, hl, hvr, (fun v hv => hvs v (List.mem_cons_of_mem _ (List.mem_cons_of_mem _ hv)))⟩, ⟨⟨hn0, had0⟩, hsA⟩, hcn, hsn, hcl, hsl, hlc, hls⟩) (fun h => kf (fun h2 => hc.mpr h2 h) ad H locs cells slots ls ⟨⟨hP, hD, hS⟩, ⟨hM, hl, hvr, (fun v hv => hvs v (List.mem_cons_of_mem _ (List.mem_cons_of_mem _ hv)))⟩, ⟨⟨hn0, had0⟩, hsA⟩, hcn, hsn, hcl, hsl, hlc, hls⟩)
theorem G_icmp_lt (hG : Mach own cc nL mn R ret nt L xs Rt G) {x y off : Int} {tgt : Nat} (hdg : decode cc pc = .ok (.if_icmp .lt off, 3)) (ht : (pc : Int) + off = (tgt : Int)) (kt : x < y → G tgt sv ρ M) (kf : ¬ (x < y) → G (pc + 3) sv ρ M) : G pc (.inl y :: .inl x :: sv) ρ M := by
  obtain ⟨p, l, e, s, m, args, below, meth, c, dC, dI, cI, cC, cS, sA, A, n0, S0, ad0, Q, ⟨hx, hb, hml, hown, hts, hK, hA, hSt, hmn, hnL, hRI, hRV⟩, rfl⟩ := hG
  intro ad H locs cells slots ls hpt
  obtain ⟨⟨hP, hD, hS⟩, ⟨hM, hl, hvr, hvs⟩, ⟨⟨hn0, had0⟩, hsA⟩, hcn, hsn, hcl, hsl, hlc, hls⟩ := hpt
  have hyr : inR y := (hvs _ List.mem_cons_self)
  have hxr : inR x := (hvs _ (List.mem_cons_of_mem _ List.mem_cons_self))
  have hc := (zI_lt hxr hyr)
  exact lv_icmp_lt hx hb hdg ht (fun h => kt (hc.mp h) ad H locs cells slots ls ⟨⟨hP, hD, hS⟩, ⟨hM, hl, hvr, (fun v hv => hvs v (List.mem_cons_of_mem _ (List.mem_cons_of_mem _ hv)))⟩, ⟨⟨hn0, had0⟩, hsA⟩, hcn, hsn, hcl, hsl, hlc, hls⟩) (fun h => kf (fun h2 => h (hc.mpr h2)) ad H locs cells slots ls ⟨⟨hP, hD, hS⟩, ⟨hM, hl, hvr, (fun v hv => hvs v (List.mem_cons_of_mem _ (List.mem_cons_of_mem _ hv)))⟩, ⟨⟨hn0, had0⟩, hsA⟩, hcn, hsn, hcl, hsl, hlc, hls⟩)
theorem G_icmp_ge (hG : Mach own cc nL mn R ret nt L xs Rt G) {x y off : Int} {tgt : Nat} (hdg : decode cc pc = .ok (.if_icmp .ge off, 3)) (ht : (pc : Int) + off = (tgt : Int)) (kt : y ≤ x → G tgt sv ρ M) (kf : ¬ (y ≤ x) → G (pc + 3) sv ρ M) : G pc (.inl y :: .inl x :: sv) ρ M := by
  obtain ⟨p, l, e, s, m, args, below, meth, c, dC, dI, cI, cC, cS, sA, A, n0, S0, ad0, Q, ⟨hx, hb, hml, hown, hts, hK, hA, hSt, hmn, hnL, hRI, hRV⟩, rfl⟩ := hG
  intro ad H locs cells slots ls hpt
  obtain ⟨⟨hP, hD, hS⟩, ⟨hM, hl, hvr, hvs⟩, ⟨⟨hn0, had0⟩, hsA⟩, hcn, hsn, hcl, hsl, hlc, hls⟩ := hpt
  have hyr : inR y := (hvs _ List.mem_cons_self)
  have hxr : inR x := (hvs _ (List.mem_cons_of_mem _ List.mem_cons_self))
  have hc := (zI_le hyr hxr)
  exact lv_icmp_ge hx hb hdg ht (fun h => kt (hc.mp h) ad H locs cells slots ls ⟨⟨hP, hD, hS⟩, ⟨hM, hl, hvr, (fun v hv => hvs v (List.mem_cons_of_mem _ (List.mem_cons_of_mem _ hv)))⟩, ⟨⟨hn0, had0⟩, hsA⟩, hcn, hsn, hcl, hsl, hlc, hls⟩) (fun h => kf (fun h2 => h (hc.mpr h2)) ad H locs cells slots ls ⟨⟨hP, hD, hS⟩, ⟨hM, hl, hvr, (fun v hv => hvs v (List.mem_cons_of_mem _ (List.mem_cons_of_mem _ hv)))⟩, ⟨⟨hn0, had0⟩, hsA⟩, hcn, hsn, hcl, hsl, hlc, hls⟩)
theorem G_icmp_gt (hG : Mach own cc nL mn R ret nt L xs Rt G) {x y off : Int} {tgt : Nat} (hdg : decode cc pc = .ok (.if_icmp .gt off, 3)) (ht : (pc : Int) + off = (tgt : Int)) (kt : y < x → G tgt sv ρ M) (kf : ¬ (y < x) → G (pc + 3) sv ρ M) : G pc (.inl y :: .inl x :: sv) ρ M := by
  obtain ⟨p, l, e, s, m, args, below, meth, c, dC, dI, cI, cC, cS, sA, A, n0, S0, ad0, Q, ⟨hx, hb, hml, hown, hts, hK, hA, hSt, hmn, hnL, hRI, hRV⟩, rfl⟩ := hG
  intro ad H locs cells slots ls hpt
  obtain ⟨⟨hP, hD, hS⟩, ⟨hM, hl, hvr, hvs⟩, ⟨⟨hn0, had0⟩, hsA⟩, hcn, hsn, hcl, hsl, hlc, hls⟩ := hpt
  have hyr : inR y := (hvs _ List.mem_cons_self)
  have hxr : inR x := (hvs _ (List.mem_cons_of_mem _ List.mem_cons_self))
  have hc := (zI_lt hyr hxr)
  exact lv_icmp_gt hx hb hdg ht (fun h => kt (hc.mp h) ad H locs cells slots ls ⟨⟨hP, hD, hS⟩, ⟨hM, hl, hvr, (fun v hv => hvs v (List.mem_cons_of_mem _ (List.mem_cons_of_mem _ hv)))⟩, ⟨⟨hn0, had0⟩, hsA⟩, hcn, hsn, hcl, hsl, hlc, hls⟩) (fun h => kf (fun h2 => h (hc.mpr h2)) ad H locs cells slots ls ⟨⟨hP, hD, hS⟩, ⟨hM, hl, hvr, (fun v hv => hvs v (List.mem_cons_of_mem _ (List.mem_cons_of_mem _ hv)))⟩, ⟨⟨hn0, had0⟩, hsA⟩, hcn, hsn, hcl, hsl, hlc, hls⟩)
theorem G_icmp_le (hG : Mach own cc nL mn R ret nt L xs Rt G) {x y off : Int} {tgt : Nat} (hdg : decode cc pc = .ok (.if_icmp .le off, 3)) (ht : (pc : Int) + off = (tgt : Int)) (kt : x ≤ y → G tgt sv ρ M) (kf : ¬ (x ≤ y) → G (pc + 3) sv ρ M) : G pc (.inl y :: .inl x :: sv) ρ M := by
  obtain ⟨p, l, e, s, m, args, below, meth, c, dC, dI, cI, cC, cS, sA, A, n0, S0, ad0, Q, ⟨hx, hb, hml, hown, hts, hK, hA, hSt, hmn, hnL, hRI, hRV⟩, rfl⟩ := hG
  intro ad H locs cells slots ls hpt
  obtain ⟨⟨hP, hD, hS⟩, ⟨hM, hl, hvr, hvs⟩, ⟨⟨hn0, had0⟩, hsA⟩, hcn, hsn, hcl, hsl, hlc, hls⟩ := hpt
  have hyr : inR y := (hvs _ List.mem_cons_self)
  have hxr : inR x := (hvs _ (List.mem_cons_of_mem _ List.mem_cons_self))
  have hc := (zI_le hxr hyr)
  exact lv_icmp_le hx hb hdg ht (fun h => kt (hc.mp h) ad H locs cells slots ls ⟨⟨hP, hD, hS⟩, ⟨hM, hl, hvr, (fun v hv => hvs v (List.mem_cons_of_mem _ (List.mem_cons_of_mem _ hv)))⟩, ⟨⟨hn0, had0⟩, hsA⟩, hcn, hsn, hcl, hsl, hlc, hls⟩) (fun h => kf (fun h2 => h (hc.mpr h2)) ad H locs cells slots ls ⟨⟨hP, hD, hS⟩, ⟨hM, hl, hvr, (fun v hv => hvs v (List.mem_cons_of_mem _ (List.mem_cons_of_mem _ hv)))⟩, ⟨⟨hn0, had0⟩, hsA⟩, hcn, hsn, hcl, hsl, hlc, hls⟩)
theorem G_goto (hG : Mach own cc nL mn R ret nt L xs Rt G) {off : Int} {tgt : Nat} (hdg : decode cc pc = .ok (.goto off, 3)) (ht : (pc : Int) + off = (tgt : Int)) (k : G tgt sv ρ M) : G pc sv ρ M := by
  obtain ⟨p, l, e, s, m, args, below, meth, c, dC, dI, cI, cC, cS, sA, A, n0, S0, ad0, Q, ⟨hx, hb, hml, hown, hts, hK, hA, hSt, hmn, hnL, hRI, hRV⟩, rfl⟩ := hG
  intro ad H locs cells slots ls hpt
  obtain ⟨⟨hP, hD, hS⟩, ⟨hM, hl, hvr, hvs⟩, ⟨⟨hn0, had0⟩, hsA⟩, hcn, hsn, hcl, hsl, hlc, hls⟩ := hpt
  exact lv_goto hx hb hdg ht (k ad H locs cells slots ls ⟨⟨hP, hD, hS⟩, ⟨hM, hl, hvr, hvs⟩, ⟨⟨hn0, had0⟩, hsA⟩, hcn, hsn, hcl, hsl, hlc, hls⟩)
theorem G_ifnull (hG : Mach own cc nL mn R ret nt L xs Rt G) {r : Option Nat} {off : Int} {tgt : Nat} (hdg : decode cc pc = .ok (.ifnull off, 3)) (ht : (pc : Int) + off = (tgt : Int)) (kt : r = none → G tgt sv ρ M) (kf : r ≠ none → G (pc + 3) sv ρ M) : G pc (.inr r :: sv) ρ M := by
  obtain ⟨p, l, e, s, m, args, below, meth, c, dC, dI, cI, cC, cS, sA, A, n0, S0, ad0, Q, ⟨hx, hb, hml, hown, hts, hK, hA, hSt, hmn, hnL, hRI, hRV⟩, rfl⟩ := hG
  intro ad H locs cells slots ls hpt
  obtain ⟨⟨hP, hD, hS⟩, ⟨hM, hl, hvr, hvs⟩, ⟨⟨hn0, had0⟩, hsA⟩, hcn, hsn, hcl, hsl, hlc, hls⟩ := hpt
  cases r with
  | none => exact lv_ifnullN hx hb hdg ht (kt rfl ad H locs cells slots ls ⟨⟨hP, hD, hS⟩, ⟨hM, hl, hvr, (fun v hv => hvs v (List.mem_cons_of_mem _ hv))⟩, ⟨⟨hn0, had0⟩, hsA⟩, hcn, hsn, hcl, hsl, hlc, hls⟩)
  | some q => exact lv_ifnull hx hb hdg (kf (fun h => by cases h) ad H locs cells slots ls ⟨⟨hP, hD, hS⟩, ⟨hM, hl, hvr, (fun v hv => hvs v (List.mem_cons_of_mem _ hv))⟩, ⟨⟨hn0, had0⟩, hsA⟩, hcn, hsn, hcl, hsl, hlc, hls⟩)
theorem G_pop (hG : Mach own cc nL mn R ret nt L xs Rt G) {v : Vv} (hdg : decode cc pc = .ok (.pop, 1)) (k : G (pc + 1) sv ρ M) : G pc (v :: sv) ρ M := by
  obtain ⟨p, l, e, s, m, args, below, meth, c, dC, dI, cI, cC, cS, sA, A, n0, S0, ad0, Q, ⟨hx, hb, hml, hown, hts, hK, hA, hSt, hmn, hnL, hRI, hRV⟩, rfl⟩ := hG
  intro ad H locs cells slots ls hpt
  obtain ⟨⟨hP, hD, hS⟩, ⟨hM, hl, hvr, hvs⟩, ⟨⟨hn0, had0⟩, hsA⟩, hcn, hsn, hcl, hsl, hlc, hls⟩ := hpt
  exact lv_pop hx hb hdg (cv_cat ad v) (k ad H locs cells slots ls ⟨⟨hP, hD, hS⟩, ⟨hM, hl, hvr, (fun v hv => hvs v (List.mem_cons_of_mem _ hv))⟩, ⟨⟨hn0, had0⟩, hsA⟩, hcn, hsn, hcl, hsl, hlc, hls⟩)
theorem G_dup (hG : Mach own cc nL mn R ret nt L xs Rt G) {v : Vv} (hdg : decode cc pc = .ok (.dup, 1)) (k : G (pc + 1) (v :: v :: sv) ρ M) : G pc (v :: sv) ρ M := by
  obtain ⟨p, l, e, s, m, args, below, meth, c, dC, dI, cI, cC, cS, sA, A, n0, S0, ad0, Q, ⟨hx, hb, hml, hown, hts, hK, hA, hSt, hmn, hnL, hRI, hRV⟩, rfl⟩ := hG
  intro ad H locs cells slots ls hpt
  obtain ⟨⟨hP, hD, hS⟩, ⟨hM, hl, hvr, hvs⟩, ⟨⟨hn0, had0⟩, hsA⟩, hcn, hsn, hcl, hsl, hlc, hls⟩ := hpt
  exact lv_dup hx hb hdg (cv_cat ad v) (k ad H locs cells slots ls ⟨⟨hP, hD, hS⟩, ⟨hM, hl, hvr, (List.forall_mem_cons.mpr ⟨(hvs _ List.mem_cons_self), hvs⟩)⟩, ⟨⟨hn0, had0⟩, hsA⟩, hcn, hsn, hcl, hsl, hlc, hls⟩)
theorem G_dup2 (hG : Mach own cc nL mn R ret nt L xs Rt G) {v w : Vv} (hdg : decode cc pc = .ok (.dup2, 1)) (k : G (pc + 1) (v :: w :: v :: w :: sv) ρ M) : G pc (v :: w :: sv) ρ M := by
  obtain ⟨p, l, e, s, m, args, below, meth, c, dC, dI, cI, cC, cS, sA, A, n0, S0, ad0, Q, ⟨hx, hb, hml, hown, hts, hK, hA, hSt, hmn, hnL, hRI, hRV⟩, rfl⟩ := hG
  intro ad H locs cells slots ls hpt
  obtain ⟨⟨hP, hD, hS⟩, ⟨hM, hl, hvr, hvs⟩, ⟨⟨hn0, had0⟩, hsA⟩, hcn, hsn, hcl, hsl, hlc, hls⟩ := hpt
  exact lv_dup2_11 hx hb hdg (cv_cat ad v) (cv_cat ad w) (k ad H locs cells slots ls ⟨⟨hP, hD, hS⟩, ⟨hM, hl, hvr, (List.forall_mem_cons.mpr ⟨(hvs _ List.mem_cons_self), (List.forall_mem_cons.mpr ⟨(hvs _ (List.mem_cons_of_mem _ List.mem_cons_self)), hvs⟩)⟩)⟩, ⟨⟨hn0, had0⟩, hsA⟩, hcn, hsn, hcl, hsl, hlc, hls⟩)
theorem G_tab (hG : Mach own cc nL mn R ret nt L xs Rt G) {x dflt lo hi : Int} {offs : Array Int} {len : Nat} (hdg : decode cc pc = .ok (.tableswitch dflt lo hi offs, len)) (tgt : Int → Nat) (dt : Nat) (hd : (pc : Int) + dflt = (dt : Int)) (ho : ∀ z : Int, lo ≤ z → z ≤ hi → ∃ off, offs[(z - lo).toNat]? = some off ∧ (pc : Int) + off = (tgt z : Int)) (ki : lo ≤ x → x ≤ hi → G (tgt x) sv ρ M) (ko : ¬ (lo ≤ x ∧ x ≤ hi) → G dt sv ρ M) : G pc (.inl x :: sv) ρ M := by
  obtain ⟨p, l, e, s, m, args, below, meth, c, dC, dI, cI, cC, cS, sA, A, n0, S0, ad0, Q, ⟨hx, hb, hml, hown, hts, hK, hA, hSt, hmn, hnL, hRI, hRV⟩, rfl⟩ := hG
  intro ad H locs cells slots ls hpt
  obtain ⟨⟨hP, hD, hS⟩, ⟨hM, hl, hvr, hvs⟩, ⟨⟨hn0, had0⟩, hsA⟩, hcn, hsn, hcl, hsl, hlc, hls⟩ := hpt
  have hxr : inR x := (hvs _ List.mem_cons_self)
  by_cases h : lo ≤ x ∧ x ≤ hi
  · obtain ⟨off, h1, h2⟩ := ho x h.1 h.2
    exact lv_tableIn hx hb hdg (by rw [zI_toInt hxr]; omega) (by rw [zI_toInt hxr]; omega) (by rw [zI_toInt hxr]; exact h1) h2 (ki h.1 h.2 ad H locs cells slots ls ⟨⟨hP, hD, hS⟩, ⟨hM, hl, hvr, (fun v hv => hvs v (List.mem_cons_of_mem _ hv))⟩, ⟨⟨hn0, had0⟩, hsA⟩, hcn, hsn, hcl, hsl, hlc, hls⟩)
  · exact lv_tableOut hx hb hdg (by rw [zI_toInt hxr]; omega) hd (ko h ad H locs cells slots ls ⟨⟨hP, hD, hS⟩, ⟨hM, hl, hvr, (fun v hv => hvs v (List.mem_cons_of_mem _ hv))⟩, ⟨⟨hn0, had0⟩, hsA⟩, hcn, hsn, hcl, hsl, hlc, hls⟩)
theorem G_i2c (hG : Mach own cc nL mn R ret nt L xs Rt G) {x : Int} (hdg : decode cc pc = .ok (.i2c, 1)) (k : G (pc + 1) (.inl (x % 65536) :: sv) ρ M) : G pc (.inl x :: sv) ρ M := by
  obtain ⟨p, l, e, s, m, args, below, meth, c, dC, dI, cI, cC, cS, sA, A, n0, S0, ad0, Q, ⟨hx, hb, hml, hown, hts, hK, hA, hSt, hmn, hnL, hRI, hRV⟩, rfl⟩ := hG
  intro ad H locs cells slots ls hpt
  obtain ⟨⟨hP, hD, hS⟩, ⟨hM, hl, hvr, hvs⟩, ⟨⟨hn0, had0⟩, hsA⟩, hcn, hsn, hcl, hsl, hlc, hls⟩ := hpt
  have hxr : inR x := (hvs _ List.mem_cons_self)
  have hv : ((zI x).toUInt32 % 65536).toInt32 = zI (x % 65536) := zI_char hxr
  exact lv_i2c hx hb hdg hv (k ad H locs cells slots ls ⟨⟨hP, hD, hS⟩, ⟨hM, hl, hvr, (List.forall_mem_cons.mpr ⟨⟨by omega, by omega⟩, (fun v hv => hvs v (List.mem_cons_of_mem _ hv))⟩)⟩, ⟨⟨hn0, had0⟩, hsA⟩, hcn, hsn, hcl, hsl, hlc, hls⟩)
theorem G_iand (hG : Mach own cc nL mn R ret nt L xs Rt G) {x : Int} (hdg : decode cc pc = .ok (.iand, 1)) (k : G (pc + 1) (.inl (x % 32) :: sv) ρ M) : G pc (.inl 31 :: .inl x :: sv) ρ M := by
  obtain ⟨p, l, e, s, m, args, below, meth, c, dC, dI, cI, cC, cS, sA, A, n0, S0, ad0, Q, ⟨hx, hb, hml, hown, hts, hK, hA, hSt, hmn, hnL, hRI, hRV⟩, rfl⟩ := hG
  intro ad H locs cells slots ls hpt
  obtain ⟨⟨hP, hD, hS⟩, ⟨hM, hl, hvr, hvs⟩, ⟨⟨hn0, had0⟩, hsA⟩, hcn, hsn, hcl, hsl, hlc, hls⟩ := hpt
  have hxr : inR x := (hvs _ (List.mem_cons_of_mem _ List.mem_cons_self))
  have hv : zI x &&& zI 31 = zI (x % 32) := zI_and31 hxr
  refine lv_iand hx hb hdg ?_
  rw [hv]
  exact k ad H locs cells slots ls ⟨⟨hP, hD, hS⟩, ⟨hM, hl, hvr, (List.forall_mem_cons.mpr ⟨⟨by omega, by omega⟩, (fun v hv => hvs v (List.mem_cons_of_mem _ (List.mem_cons_of_mem _ hv)))⟩)⟩, ⟨⟨hn0, had0⟩, hsA⟩, hcn, hsn, hcl, hsl, hlc, hls⟩
end RULES
end
section
theorem tb_good : ∀ w ∈ gtb, (w.onTables && w.keeps) = true ∨ ∃ ty, w = .arrayClass ty := fun w hw => good_of_word (List.mem_filter.mp hw).2
theorem good_sub {ws : List Cond} (h : ∀ w ∈ ws, w ∈ gtb) : GoodIn gtb ws := fun w hw => ⟨h w hw, tb_good w (h w hw)⟩
theorem in_p (ws : List Cond) (ps : List Nat) (h : ps.map (fun i => lw_tbl[i]?) = ws.map some) (hg : ws.all goodWord = true) : ∀ w ∈ ws, w ∈ gtb := by
  intro w hw
  have h1 : some w ∈ ps.map (fun i => lw_tbl[i]?) := by rw [h]; exact List.mem_map.mpr ⟨w, hw, rfl⟩
  obtain ⟨i, -, hi⟩ := List.mem_map.mp h1
  exact List.mem_filter.mpr ⟨List.mem_of_getElem? hi, List.all_eq_true.mp hg w hw⟩
/-- what the tables say of a field that is read -/
def Fok (own : String) (idx ci j : Nat) (r : Bool) : Prop := ∃ (C : String) (T : u_T) (N : Nat), vwCl[ci]? = some (C, T, N) ∧ j < N ∧ (∀ w ∈ u_ws C T N, w ∈ gtb) ∧ Cond.fieldLink own idx C (T j).2.1 (T j).2.2.1 ∈ gtb ∧ (T j).1 = C ∧ (clR ci)[j]? = some r ∧ ci < 8
/-- .. that is put -/
def Pok (own : String) (idx ci j : Nat) (r : Bool) (ty : FieldType) (fin : Bool) : Prop := ∃ (C : String) (T : u_T) (N : Nat) (ty0 : Nat → FieldType), vwCl[ci]? = some (C, T, N) ∧ j < N ∧ (∀ w ∈ u_ws C T N, w ∈ gtb) ∧ (∀ k, k < N → parseFieldDescriptor (T k).2.2.1 = some (ty0 k)) ∧ (∀ a, a < N → ∀ b, b < N → a ≠ b → (T a).2.1 ≠ (T b).2.1) ∧ Cond.fieldLink own idx C (T j).2.1 (T j).2.2.1 ∈ gtb ∧ (T j).1 = C ∧ (T j).2.2.2 = fin ∧ parseFieldDescriptor (T j).2.2.1 = some ty ∧ (clR ci)[j]? = some r ∧ ci < 8 ∧ (fin = true → C = own)
theorem cell_ob {cI cC cS : ClassId} {ad : Nat → Nat} {M : Mm} {q ci w : Nat} (h : ci < 8) : cellE cI cC cS ad M q (ci, w) = .inr (ci, fvs ad M q (clR ci)) := by simp [cellE, h]
theorem cell_in {cI cC cS : ClassId} {ad : Nat → Nat} {M : Mm} {q n : Nat} : cellE cI cC cS ad M q (20, n) = .inl (cI, n, .inl (fun j => zI (M.2.1 q j))) := by simp [cellE]
theorem cell_ch {cI cC cS : ClassId} {ad : Nat → Nat} {M : Mm} {q n : Nat} : cellE cI cC cS ad M q (21, n) = .inl (cC, n, .inl (fun j => zI (M.2.1 q j))) := by simp [cellE]
theorem cell_rf {cI cC cS : ClassId} {ad : Nat → Nat} {M : Mm} {q n : Nat} : cellE cI cC cS ad M q (22, n) = .inl (cS, n, .inr (.inr (.inr (.inr (fun j => (M.2.2 q j).map ad))))) := by simp [cellE]
theorem cv_rf (ad : Nat → Nat) (r : Option Nat) : va_rf (r.map ad) = cv ad (.inr r) := by cases r <;> rfl
theorem vok_rf {M : Mm} (h : MOK M) (q j : Nat) : vok M (.inr (M.2.2 q j)) := by
  cases e : M.2.2 q j with
  | none => trivial
  | some k => exact Or.inl (h.2.2.1 q j k e)
theorem upd_si {M : Mm} {q k : Nat} {z : Int} : upd (fun j => zI (M.2.1 q j)) k (zI z) = fun j => zI ((si M q k z).2.1 q j) := by
  funext j
  simp only [upd, si]
  split <;> simp_all
theorem up_sr {ad : Nat → Nat} {M : Mm} {q k v : Nat} : va_up (fun j => (M.2.2 q j).map ad) k (some (ad v)) = fun j => ((sr M q k (some v)).2.2 q j).map ad := by
  funext j
  simp only [va_up, sr]
  split <;> simp_all
section RULES
variable {own : String} {cc : ByteArray} {nL : Nat} {mn : String} {R : Room} {ret : Option FieldType} {nt L : Nat} {xs : Nat → Int} {Rt : Int → Mm → Prop} {G : Gt} {pc : Nat} {sv : List Vv} {ρ : En} {M : Mm}
theorem G_getI (hG : Mach own cc nL mn R ret nt L xs Rt G) {q w idx ci j : Nat} (F : Fok own idx ci j false) (hsh : M.1[q]? = some (ci, w)) (hdg : decode cc pc = .ok (.getfield idx, 3)) (k : G (pc + 3) (.inl (M.2.1 q j) :: sv) ρ M) : G pc (.inr (some q) :: sv) ρ M := by
  obtain ⟨p, l, e, s, m, args, below, meth, c, dC, dI, cI, cC, cS, sA, A, n0, S0, ad0, Q, ⟨hx, hb, hml, hown, hts, hK, hA, hSt, hmn, hnL, hRI, hRV⟩, rfl⟩ := hG
  intro ad H locs cells slots ls hpt
  obtain ⟨⟨hP, hD, hS⟩, ⟨hM, hl, hvr, hvs⟩, ⟨⟨hn0, had0⟩, hsA⟩, hcn, hsn, hcl, hsl, hlc, hls⟩ := hpt
  obtain ⟨C, T, N, hc, hj, hin, hlk, hC, hr, hci⟩ := F
  have he := ws_get (cI := cI) (cC := cC) (cS := cS) (ad := ad) hsh
  rw [cell_ob hci] at he
  exact va_get (D := (dC, dI)) (v := .int (zI (M.2.1 q j))) hx hb hts hin hown hK hP q he hc j hj (hts _ hlk) (by rw [hC]; exact fun _ h => h) (by rw [fvs_get hr]; rfl) hdg (k ad H locs cells slots ls ⟨⟨hP, hD, hS⟩, ⟨hM, hl, hvr, (List.forall_mem_cons.mpr ⟨(hM.2.1 q j), (fun v hv => hvs v (List.mem_cons_of_mem _ hv))⟩)⟩, ⟨⟨hn0, had0⟩, hsA⟩, hcn, hsn, hcl, hsl, hlc, hls⟩)
theorem G_getR (hG : Mach own cc nL mn R ret nt L xs Rt G) {q w idx ci j : Nat} (F : Fok own idx ci j true) (hsh : M.1[q]? = some (ci, w)) (hdg : decode cc pc = .ok (.getfield idx, 3)) (k : G (pc + 3) (.inr (M.2.2 q j) :: sv) ρ M) : G pc (.inr (some q) :: sv) ρ M := by
  obtain ⟨p, l, e, s, m, args, below, meth, c, dC, dI, cI, cC, cS, sA, A, n0, S0, ad0, Q, ⟨hx, hb, hml, hown, hts, hK, hA, hSt, hmn, hnL, hRI, hRV⟩, rfl⟩ := hG
  intro ad H locs cells slots ls hpt
  obtain ⟨⟨hP, hD, hS⟩, ⟨hM, hl, hvr, hvs⟩, ⟨⟨hn0, had0⟩, hsA⟩, hcn, hsn, hcl, hsl, hlc, hls⟩ := hpt
  obtain ⟨C, T, N, hc, hj, hin, hlk, hC, hr, hci⟩ := F
  have he := ws_get (cI := cI) (cC := cC) (cS := cS) (ad := ad) hsh
  rw [cell_ob hci] at he
  exact va_get (D := (dC, dI)) (v := cv ad (.inr (M.2.2 q j))) hx hb hts hin hown hK hP q he hc j hj (hts _ hlk) (by rw [hC]; exact fun _ h => h) (by rw [fvs_get hr, if_pos rfl, cv_rf]) hdg (k ad H locs cells slots ls ⟨⟨hP, hD, hS⟩, ⟨hM, hl, hvr, (List.forall_mem_cons.mpr ⟨(vok_rf hM q j), (fun v hv => hvs v (List.mem_cons_of_mem _ hv))⟩)⟩, ⟨⟨hn0, had0⟩, hsA⟩, hcn, hsn, hcl, hsl, hlc, hls⟩)
theorem G_putI (hG : Mach own cc nL mn R ret nt L xs Rt G) {q w idx ci j : Nat} {z : Int} {ty : FieldType} (F : Pok own idx ci j false ty false) (hsh : M.1[q]? = some (ci, w)) (hn : narrow ty (.int (zI z)) = .int (zI z)) (hft : fits ty (.int (zI z)) = true) (hdg : decode cc pc = .ok (.putfield idx, 3)) (k : G (pc + 3) sv ρ (si M q j z)) : G pc (.inl z :: .inr (some q) :: sv) ρ M := by
  obtain ⟨p, l, e, s, m, args, below, meth, c, dC, dI, cI, cC, cS, sA, A, n0, S0, ad0, Q, ⟨hx, hb, hml, hown, hts, hK, hA, hSt, hmn, hnL, hRI, hRV⟩, rfl⟩ := hG
  intro ad H locs cells slots ls hpt
  obtain ⟨⟨hP, hD, hS⟩, ⟨hM, hl, hvr, hvs⟩, ⟨⟨hn0, had0⟩, hsA⟩, hcn, hsn, hcl, hsl, hlc, hls⟩ := hpt
  obtain ⟨C, T, N, ty0, hc, hj, hin, hty, hnm, hlk, hC, hfin, hpd, hr, hci, -⟩ := F
  have he := ws_get (cI := cI) (cC := cC) (cS := cS) (ad := ad) hsh
  rw [cell_ob hci] at he
  have hzr : inR z := (hvs _ List.mem_cons_self)
  have hlq : q < M.1.length := (List.getElem?_eq_some_iff.mp hsh).1
  have hup := ws_upd (cI := cI) (cC := cC) (cS := cS) (ad := ad) (M' := si M q j z) hsh rfl cell_si
  rw [cell_ob hci, ← fvs_si hr] at hup
  refine va_put (D := (dC, dI)) (v := .int (zI z)) hx hb hts hin ty0 hty hnm hown hK hP hD hS q he hc j hj (hts _ hlk) (by rw [hC]; exact fun _ h => h) hfin hpd hn hft (by rw [fvs_len]; exact (List.getElem?_eq_some_iff.mp hr).1) hdg (fun H1 locs1 hP1 hD1 hS1 => ?_)
  rw [hup] at hP1 hD1
  exact k ad H1 locs1 cells slots ls ⟨⟨hP1, hD1, hS1⟩, ⟨MOK_si hM hlq hzr, hl, hvr, (fun v hv => hvs v (List.mem_cons_of_mem _ (List.mem_cons_of_mem _ hv)))⟩, ⟨⟨hn0, had0⟩, hsA⟩, hcn, hsn, hcl, hsl, hlc, hls⟩
theorem G_putR (hG : Mach own cc nL mn R ret nt L xs Rt G) {q w idx ci j v : Nat} {ty : FieldType} (F : Pok own idx ci j true ty true) (hmi : mn = "<init>") (hsh : M.1[q]? = some (ci, w)) (hv : v < M.1.length) (hn : ∀ a : Nat, narrow ty (.ref a) = .ref a) (hft : ∀ a : Nat, fits ty (.ref a) = true) (hdg : decode cc pc = .ok (.putfield idx, 3)) (k : G (pc + 3) sv ρ (sr M q j (some v))) : G pc (.inr (some v) :: .inr (some q) :: sv) ρ M := by
  obtain ⟨p, l, e, s, m, args, below, meth, c, dC, dI, cI, cC, cS, sA, A, n0, S0, ad0, Q, ⟨hx, hb, hml, hown, hts, hK, hA, hSt, hmn, hnL, hRI, hRV⟩, rfl⟩ := hG
  intro ad H locs cells slots ls hpt
  obtain ⟨⟨hP, hD, hS⟩, ⟨hM, hl, hvr, hvs⟩, ⟨⟨hn0, had0⟩, hsA⟩, hcn, hsn, hcl, hsl, hlc, hls⟩ := hpt
  obtain ⟨C, T, N, ty0, hc, hj, hin, hty, hnm, hlk, hC, hfin, hpd, hr, hci, hCo⟩ := F
  have he := ws_get (cI := cI) (cC := cC) (cS := cS) (ad := ad) hsh
  rw [cell_ob hci] at he
  have hlq : q < M.1.length := (List.getElem?_eq_some_iff.mp hsh).1
  have hup := ws_upd (cI := cI) (cC := cC) (cS := cS) (ad := ad) (M' := sr M q j (some v)) hsh rfl cell_sr
  rw [cell_ob hci, ← fvs_sr hr] at hup
  refine va_putF (D := (dC, dI)) (v := va_rf ((some v).map ad)) hx hb hts hin ty0 hty hnm hown hK hP hD hS q he hc j hj (hts _ hlk) (by rw [hC]; exact fun _ h => h) hfin (hmn.trans hmi) (by rw [hC]; exact hCo rfl) hpd (hn (ad v)) (hft (ad v)) (by rw [fvs_len]; exact (List.getElem?_eq_some_iff.mp hr).1) hdg (fun H1 locs1 hP1 hD1 hS1 => ?_)
  rw [hup] at hP1 hD1
  exact k ad H1 locs1 cells slots ls ⟨⟨hP1, hD1, hS1⟩, ⟨MOK_sr hM hlq (fun j h => by cases h; exact hv), hl, hvr, (fun v hv => hvs v (List.mem_cons_of_mem _ (List.mem_cons_of_mem _ hv)))⟩, ⟨⟨hn0, had0⟩, hsA⟩, hcn, hsn, hcl, hsl, hlc, hls⟩
theorem G_iald (hG : Mach own cc nL mn R ret nt L xs Rt G) {q n : Nat} {j : Int} (hsh : M.1[q]? = some (20, n)) (h0 : 0 ≤ j) (h1 : j < (n : Int)) (hdg : decode cc pc = .ok (.iaload, 1)) (k : G (pc + 1) (.inl (M.2.1 q j.toNat) :: sv) ρ M) : G pc (.inl j :: .inr (some q) :: sv) ρ M := by
  obtain ⟨p, l, e, s, m, args, below, meth, c, dC, dI, cI, cC, cS, sA, A, n0, S0, ad0, Q, ⟨hx, hb, hml, hown, hts, hK, hA, hSt, hmn, hnL, hRI, hRV⟩, rfl⟩ := hG
  intro ad H locs cells slots ls hpt
  obtain ⟨⟨hP, hD, hS⟩, ⟨hM, hl, hvr, hvs⟩, ⟨⟨hn0, had0⟩, hsA⟩, hcn, hsn, hcl, hsl, hlc, hls⟩ := hpt
  have he := ws_get (cI := cI) (cC := cC) (cS := cS) (ad := ad) hsh
  rw [cell_in] at he
  have hjr : inR j := (hvs _ List.mem_cons_self)
  refine va_iald hx hb hK hP q 0 he rfl (zI_in hjr h0 h1) hdg ?_
  rw [zI_cl hjr]
  exact k ad H locs cells slots ls ⟨⟨hP, hD, hS⟩, ⟨hM, hl, hvr, (List.forall_mem_cons.mpr ⟨(hM.2.1 q j.toNat), (fun v hv => hvs v (List.mem_cons_of_mem _ (List.mem_cons_of_mem _ hv)))⟩)⟩, ⟨⟨hn0, had0⟩, hsA⟩, hcn, hsn, hcl, hsl, hlc, hls⟩
theorem G_cald (hG : Mach own cc nL mn R ret nt L xs Rt G) {q n : Nat} {j : Int} (hsh : M.1[q]? = some (21, n)) (h0 : 0 ≤ j) (h1 : j < (n : Int)) (hdg : decode cc pc = .ok (.caload, 1)) (k : G (pc + 1) (.inl (M.2.1 q j.toNat) :: sv) ρ M) : G pc (.inl j :: .inr (some q) :: sv) ρ M := by
  obtain ⟨p, l, e, s, m, args, below, meth, c, dC, dI, cI, cC, cS, sA, A, n0, S0, ad0, Q, ⟨hx, hb, hml, hown, hts, hK, hA, hSt, hmn, hnL, hRI, hRV⟩, rfl⟩ := hG
  intro ad H locs cells slots ls hpt
  obtain ⟨⟨hP, hD, hS⟩, ⟨hM, hl, hvr, hvs⟩, ⟨⟨hn0, had0⟩, hsA⟩, hcn, hsn, hcl, hsl, hlc, hls⟩ := hpt
  have he := ws_get (cI := cI) (cC := cC) (cS := cS) (ad := ad) hsh
  rw [cell_ch] at he
  have hjr : inR j := (hvs _ List.mem_cons_self)
  refine va_cald hx hb hK hP q 1 he rfl (zI_in hjr h0 h1) hdg ?_
  rw [zI_cl hjr]
  exact k ad H locs cells slots ls ⟨⟨hP, hD, hS⟩, ⟨hM, hl, hvr, (List.forall_mem_cons.mpr ⟨(hM.2.1 q j.toNat), (fun v hv => hvs v (List.mem_cons_of_mem _ (List.mem_cons_of_mem _ hv)))⟩)⟩, ⟨⟨hn0, had0⟩, hsA⟩, hcn, hsn, hcl, hsl, hlc, hls⟩
theorem G_aald (hG : Mach own cc nL mn R ret nt L xs Rt G) {q n : Nat} {j : Int} (hsh : M.1[q]? = some (22, n)) (h0 : 0 ≤ j) (h1 : j < (n : Int)) (hdg : decode cc pc = .ok (.aaload, 1)) (k : G (pc + 1) (.inr (M.2.2 q j.toNat) :: sv) ρ M) : G pc (.inl j :: .inr (some q) :: sv) ρ M := by
  obtain ⟨p, l, e, s, m, args, below, meth, c, dC, dI, cI, cC, cS, sA, A, n0, S0, ad0, Q, ⟨hx, hb, hml, hown, hts, hK, hA, hSt, hmn, hnL, hRI, hRV⟩, rfl⟩ := hG
  intro ad H locs cells slots ls hpt
  obtain ⟨⟨hP, hD, hS⟩, ⟨hM, hl, hvr, hvs⟩, ⟨⟨hn0, had0⟩, hsA⟩, hcn, hsn, hcl, hsl, hlc, hls⟩ := hpt
  have he := ws_get (cI := cI) (cC := cC) (cS := cS) (ad := ad) hsh
  rw [cell_rf] at he
  have hjr : inR j := (hvs _ List.mem_cons_self)
  refine va_aldq hx hb hK hP q 2 he rfl (zI_in hjr h0 h1) hdg ?_
  rw [zI_cl hjr, cv_rf]
  exact k ad H locs cells slots ls ⟨⟨hP, hD, hS⟩, ⟨hM, hl, hvr, (List.forall_mem_cons.mpr ⟨(vok_rf hM q j.toNat), (fun v hv => hvs v (List.mem_cons_of_mem _ (List.mem_cons_of_mem _ hv)))⟩)⟩, ⟨⟨hn0, had0⟩, hsA⟩, hcn, hsn, hcl, hsl, hlc, hls⟩
theorem G_iast (hG : Mach own cc nL mn R ret nt L xs Rt G) {q n : Nat} {j z : Int} (hsh : M.1[q]? = some (20, n)) (h0 : 0 ≤ j) (h1 : j < (n : Int)) (hdg : decode cc pc = .ok (.iastore, 1)) (k : G (pc + 1) sv ρ (si M q j.toNat z)) : G pc (.inl z :: .inl j :: .inr (some q) :: sv) ρ M := by
  obtain ⟨p, l, e, s, m, args, below, meth, c, dC, dI, cI, cC, cS, sA, A, n0, S0, ad0, Q, ⟨hx, hb, hml, hown, hts, hK, hA, hSt, hmn, hnL, hRI, hRV⟩, rfl⟩ := hG
  intro ad H locs cells slots ls hpt
  obtain ⟨⟨hP, hD, hS⟩, ⟨hM, hl, hvr, hvs⟩, ⟨⟨hn0, had0⟩, hsA⟩, hcn, hsn, hcl, hsl, hlc, hls⟩ := hpt
  have he := ws_get (cI := cI) (cC := cC) (cS := cS) (ad := ad) hsh
  rw [cell_in] at he
  have hzr : inR z := (hvs _ List.mem_cons_self)
  have hjr : inR j := (hvs _ (List.mem_cons_of_mem _ List.mem_cons_self))
  have hlq : q < M.1.length := (List.getElem?_eq_some_iff.mp hsh).1
  have hup := ws_upd (cI := cI) (cC := cC) (cS := cS) (ad := ad) (M' := si M q j.toNat z) hsh rfl cell_si
  rw [cell_in, ← upd_si] at hup
  refine va_iast hx hb hK hP hD hS q 0 he rfl (zI_in hjr h0 h1) hdg (fun H1 locs1 hP1 hD1 hS1 => ?_)
  rw [zI_cl hjr, hup] at hP1 hD1
  exact k ad H1 locs1 cells slots ls ⟨⟨hP1, hD1, hS1⟩, ⟨MOK_si hM hlq hzr, hl, hvr, (fun v hv => hvs v (List.mem_cons_of_mem _ (List.mem_cons_of_mem _ (List.mem_cons_of_mem _ hv))))⟩, ⟨⟨hn0, had0⟩, hsA⟩, hcn, hsn, hcl, hsl, hlc, hls⟩
theorem G_cast (hG : Mach own cc nL mn R ret nt L xs Rt G) {q n : Nat} {j z : Int} (hsh : M.1[q]? = some (21, n)) (h0 : 0 ≤ j) (h1 : j < (n : Int)) (hz0 : 0 ≤ z) (hz1 : z < 65536) (hdg : decode cc pc = .ok (.castore, 1)) (k : G (pc + 1) sv ρ (si M q j.toNat z)) : G pc (.inl z :: .inl j :: .inr (some q) :: sv) ρ M := by
  obtain ⟨p, l, e, s, m, args, below, meth, c, dC, dI, cI, cC, cS, sA, A, n0, S0, ad0, Q, ⟨hx, hb, hml, hown, hts, hK, hA, hSt, hmn, hnL, hRI, hRV⟩, rfl⟩ := hG
  intro ad H locs cells slots ls hpt
  obtain ⟨⟨hP, hD, hS⟩, ⟨hM, hl, hvr, hvs⟩, ⟨⟨hn0, had0⟩, hsA⟩, hcn, hsn, hcl, hsl, hlc, hls⟩ := hpt
  have he := ws_get (cI := cI) (cC := cC) (cS := cS) (ad := ad) hsh
  rw [cell_ch] at he
  have hzr : inR z := (hvs _ List.mem_cons_self)
  have hjr : inR j := (hvs _ (List.mem_cons_of_mem _ List.mem_cons_self))
  have hlq : q < M.1.length := (List.getElem?_eq_some_iff.mp hsh).1
  have hup := ws_upd (cI := cI) (cC := cC) (cS := cS) (ad := ad) (M' := si M q j.toNat z) hsh rfl cell_si
  rw [cell_ch, ← upd_si] at hup
  have hnr : vp_nar .char (zI z) = zI z := by
    obtain ⟨n, rfl⟩ := Int.eq_ofNat_of_zero_le hz0
    rw [zI_nat]
    have := (pk_charN (q := n) (by omega)).1
    unfold vp_nar
    rw [this]
  refine va_cast hx hb hK hP hD hS q 1 he rfl (zI_in hjr h0 h1) hdg (fun H1 locs1 hP1 hD1 hS1 => ?_)
  rw [zI_cl hjr, hnr, hup] at hP1 hD1
  exact k ad H1 locs1 cells slots ls ⟨⟨hP1, hD1, hS1⟩, ⟨MOK_si hM hlq hzr, hl, hvr, (fun v hv => hvs v (List.mem_cons_of_mem _ (List.mem_cons_of_mem _ (List.mem_cons_of_mem _ hv))))⟩, ⟨⟨hn0, had0⟩, hsA⟩, hcn, hsn, hcl, hsl, hlc, hls⟩
theorem G_aast (hG : Mach own cc nL mn R ret nt L xs Rt G) {q n v w : Nat} {j : Int} (hsh : M.1[q]? = some (22, n)) (hv : M.1[v]? = some (4, w)) (h0 : 0 ≤ j) (h1 : j < (n : Int)) (hdg : decode cc pc = .ok (.aastore, 1)) (k : G (pc + 1) sv ρ (sr M q j.toNat (some v))) : G pc (.inr (some v) :: .inl j :: .inr (some q) :: sv) ρ M := by
  obtain ⟨p, l, e, s, m, args, below, meth, c, dC, dI, cI, cC, cS, sA, A, n0, S0, ad0, Q, ⟨hx, hb, hml, hown, hts, hK, hA, hSt, hmn, hnL, hRI, hRV⟩, rfl⟩ := hG
  intro ad H locs cells slots ls hpt
  obtain ⟨⟨hP, hD, hS⟩, ⟨hM, hl, hvr, hvs⟩, ⟨⟨hn0, had0⟩, hsA⟩, hcn, hsn, hcl, hsl, hlc, hls⟩ := hpt
  have he := ws_get (cI := cI) (cC := cC) (cS := cS) (ad := ad) hsh
  rw [cell_rf] at he
  have hev := ws_get (cI := cI) (cC := cC) (cS := cS) (ad := ad) hv
  rw [cell_ob (by decide)] at hev
  have hjr : inR j := (hvs _ (List.mem_cons_of_mem _ List.mem_cons_self))
  have hlq : q < M.1.length := (List.getElem?_eq_some_iff.mp hsh).1
  have hlv : v < M.1.length := (List.getElem?_eq_some_iff.mp hv).1
  have hup := ws_upd (cI := cI) (cC := cC) (cS := cS) (ad := ad) (M' := sr M q j.toNat (some v)) hsh rfl cell_sr
  rw [cell_rf, ← up_sr] at hup
  refine va_astq (r := (RX4, TX4, 3)) hx hb hK hP hD hS q 2 v 4 he rfl hev rfl (zI_in hjr h0 h1) hdg (fun H1 locs1 hP1 hD1 hS1 => ?_)
  rw [zI_cl hjr, hup] at hP1 hD1
  exact k ad H1 locs1 cells slots ls ⟨⟨hP1, hD1, hS1⟩, ⟨MOK_sr hM hlq (fun j h => by cases h; exact hlv), hl, hvr, (fun v hv => hvs v (List.mem_cons_of_mem _ (List.mem_cons_of_mem _ (List.mem_cons_of_mem _ hv))))⟩, ⟨⟨hn0, had0⟩, hsA⟩, hcn, hsn, hcl, hsl, hlc, hls⟩
theorem G_alen (hG : Mach own cc nL mn R ret nt L xs Rt G) {q n : Nat} (hsh : M.1[q]? = some (20, n)) (hnr : n < 2147483648) (hdg : decode cc pc = .ok (.arraylength, 1)) (k : G (pc + 1) (.inl (n : Int) :: sv) ρ M) : G pc (.inr (some q) :: sv) ρ M := by
  obtain ⟨p, l, e, s, m, args, below, meth, c, dC, dI, cI, cC, cS, sA, A, n0, S0, ad0, Q, ⟨hx, hb, hml, hown, hts, hK, hA, hSt, hmn, hnL, hRI, hRV⟩, rfl⟩ := hG
  intro ad H locs cells slots ls hpt
  obtain ⟨⟨hP, hD, hS⟩, ⟨hM, hl, hvr, hvs⟩, ⟨⟨hn0, had0⟩, hsA⟩, hcn, hsn, hcl, hsl, hlc, hls⟩ := hpt
  have he := ws_get (cI := cI) (cC := cC) (cS := cS) (ad := ad) hsh
  rw [cell_in] at he
  exact va_alen (v := zI n) hx hb hK hP q 0 he (show (tysOf cI cC cS)[0]? = some (cI, .int) from rfl) (zI_nat n).symm hdg (k ad H locs cells slots ls ⟨⟨hP, hD, hS⟩, ⟨hM, hl, hvr, (List.forall_mem_cons.mpr ⟨⟨by omega, by omega⟩, (fun v hv => hvs v (List.mem_cons_of_mem _ hv))⟩)⟩, ⟨⟨hn0, had0⟩, hsA⟩, hcn, hsn, hcl, hsl, hlc, hls⟩)
theorem G_tld (hG : Mach own cc nL mn R ret nt L xs Rt G) {t : Nat} {j : Int} (ht : t < nt) (h0 : 0 ≤ j) (h1 : j < (tLn L t : Int)) (hdg : decode cc pc = .ok (.iaload, 1)) (k : G (pc + 1) (.inl (tVl xs t j.toNat) :: sv) ρ M) : G pc (.inl j :: .inr (some (1000000 + t)) :: sv) ρ M := by
  obtain ⟨p, l, e, s, m, args, below, meth, c, dC, dI, cI, cC, cS, sA, A, n0, S0, ad0, Q, ⟨hx, hb, hml, hown, hts, hK, hA, hSt, hmn, hnL, hRI, hRV⟩, rfl⟩ := hG
  intro ad H locs cells slots ls hpt
  obtain ⟨⟨hP, hD, hS⟩, ⟨hM, hl, hvr, hvs⟩, ⟨⟨hn0, had0⟩, hsA⟩, hcn, hsn, hcl, hsl, hlc, hls⟩ := hpt
  obtain ⟨hX, hbl, hbA⟩ := hSt.2.1 t ht
  have hjr : inR j := (hvs _ List.mem_cons_self)
  rw [List.map_cons, List.map_cons, show cv ad (.inr (some (1000000 + t))) = .ref (sA t) by rw [← hsA]; rfl]
  refine va_sld hx hb hX hbl hbA hS (zI_in hjr h0 h1) hdg ?_
  rw [zI_cl hjr]
  exact k ad H locs cells slots ls ⟨⟨hP, hD, hS⟩, ⟨hM, hl, hvr, (List.forall_mem_cons.mpr ⟨(hSt.2.2.1 t j.toNat), (fun v hv => hvs v (List.mem_cons_of_mem _ (List.mem_cons_of_mem _ hv)))⟩)⟩, ⟨⟨hn0, had0⟩, hsA⟩, hcn, hsn, hcl, hsl, hlc, hls⟩
theorem G_tlen (hG : Mach own cc nL mn R ret nt L xs Rt G) {t : Nat} (ht : t < nt) (hnr : tLn L t < 2147483648) (hdg : decode cc pc = .ok (.arraylength, 1)) (k : G (pc + 1) (.inl (tLn L t : Int) :: sv) ρ M) : G pc (.inr (some (1000000 + t)) :: sv) ρ M := by
  obtain ⟨p, l, e, s, m, args, below, meth, c, dC, dI, cI, cC, cS, sA, A, n0, S0, ad0, Q, ⟨hx, hb, hml, hown, hts, hK, hA, hSt, hmn, hnL, hRI, hRV⟩, rfl⟩ := hG
  intro ad H locs cells slots ls hpt
  obtain ⟨⟨hP, hD, hS⟩, ⟨hM, hl, hvr, hvs⟩, ⟨⟨hn0, had0⟩, hsA⟩, hcn, hsn, hcl, hsl, hlc, hls⟩ := hpt
  obtain ⟨hX, hbl, hbA⟩ := hSt.2.1 t ht
  rw [List.map_cons, show cv ad (.inr (some (1000000 + t))) = .ref (sA t) by rw [← hsA]; rfl]
  refine va_slen hx hb hX hbl hbA hS hdg ?_
  rw [show Int32.ofNat (tLn L t) = zI (tLn L t) from (zI_nat _).symm]
  exact k ad H locs cells slots ls ⟨⟨hP, hD, hS⟩, ⟨hM, hl, hvr, (List.forall_mem_cons.mpr ⟨⟨by omega, by omega⟩, (fun v hv => hvs v (List.mem_cons_of_mem _ hv))⟩)⟩, ⟨⟨hn0, had0⟩, hsA⟩, hcn, hsn, hcl, hsl, hlc, hls⟩
theorem G_gets (hG : Mach own cc nL mn R ret nt L xs Rt G) {t idx : Nat} (ht : t < 3) (hlk : Cond.fieldLink own idx "SungSlides" (stN t) "[I" ∈ gtb) (hdg : decode cc pc = .ok (.getstatic idx, 3)) (k : G (pc + 3) (.inr (some (1000000 + t)) :: sv) ρ M) : G pc sv ρ M := by
  obtain ⟨p, l, e, s, m, args, below, meth, c, dC, dI, cI, cC, cS, sA, A, n0, S0, ad0, Q, ⟨hx, hb, hml, hown, hts, hK, hA, hSt, hmn, hnL, hRI, hRV⟩, rfl⟩ := hG
  intro ad H locs cells slots ls hpt
  obtain ⟨⟨hP, hD, hS⟩, ⟨hM, hl, hvr, hvs⟩, ⟨⟨hn0, had0⟩, hsA⟩, hcn, hsn, hcl, hsl, hlc, hls⟩ := hpt
  have h1 := k ad H locs cells slots ls ⟨⟨hP, hD, hS⟩, ⟨hM, hl, hvr, (List.forall_mem_cons.mpr ⟨(Or.inr ⟨by omega, by omega⟩), hvs⟩)⟩, ⟨⟨hn0, had0⟩, hsA⟩, hcn, hsn, hcl, hsl, hlc, hls⟩
  rw [List.map_cons, show cv ad (.inr (some (1000000 + t))) = .ref (sA t) by rw [← hsA]; rfl] at h1
  exact va_gets hx hb (hSt.2.2.2.1 t ht) hS hown (hts _ hlk) (fun _ h => h) hdg h1
theorem G_getsN (hG : Mach own cc nL mn R ret nt L xs Rt G) {t idx : Nat} {host : String} (ht : t < 3) (hlk : Cond.fieldLinkNest own idx "SungSlides" (stN t) "[I" host ∈ nestW) (hdg : decode cc pc = .ok (.getstatic idx, 3)) (k : G (pc + 3) (.inr (some (1000000 + t)) :: sv) ρ M) : G pc sv ρ M := by
  obtain ⟨p, l, e, s, m, args, below, meth, c, dC, dI, cI, cC, cS, sA, A, n0, S0, ad0, Q, ⟨hx, hb, hml, hown, hts, hK, hA, hSt, hmn, hnL, hRI, hRV⟩, rfl⟩ := hG
  intro ad H locs cells slots ls hpt
  obtain ⟨⟨hP, hD, hS⟩, ⟨hM, hl, hvr, hvs⟩, ⟨⟨hn0, had0⟩, hsA⟩, hcn, hsn, hcl, hsl, hlc, hls⟩ := hpt
  have h1 := k ad H locs cells slots ls ⟨⟨hP, hD, hS⟩, ⟨hM, hl, hvr, (List.forall_mem_cons.mpr ⟨(Or.inr ⟨by omega, by omega⟩), hvs⟩)⟩, ⟨⟨hn0, had0⟩, hsA⟩, hcn, hsn, hcl, hsl, hlc, hls⟩
  rw [List.map_cons, show cv ad (.inr (some (1000000 + t))) = .ref (sA t) by rw [← hsA]; rfl] at h1
  exact va_getsN hx hb (hSt.2.2.2.1 t ht) hS hown (va_Nw.use rfl (hSt.2.2.2.2.2 _ hlk)) (fun _ h => h) hdg h1
theorem G_ret (hG : Mach own cc nL mn R ret nt L xs Rt G) {rt : FieldType} {x : Int} (hrt : ret = some rt) (hn : narrow rt (.int (zI x)) = .int (zI x)) (hdg : decode cc pc = .ok (.ireturn, 1)) (h : Rt x M) : G pc [.inl x] ρ M := by
  obtain ⟨p, l, e, s, m, args, below, meth, c, dC, dI, cI, cC, cS, sA, A, n0, S0, ad0, Q, ⟨hx, hb, hml, hown, hts, hK, hA, hSt, hmn, hnL, hRI, hRV⟩, rfl⟩ := hG
  intro ad H locs cells slots ls hpt
  obtain ⟨⟨hP, hD, hS⟩, ⟨hM, hl, hvr, hvs⟩, ⟨⟨hn0, had0⟩, hsA⟩, hcn, hsn, hcl, hsl, hlc, hls⟩ := hpt
  exact hRI rt pc x ρ M hrt hn hdg h ad H locs cells slots ls ⟨⟨hP, hD, hS⟩, ⟨hM, hl, hvr, hvs⟩, ⟨⟨hn0, had0⟩, hsA⟩, hcn, hsn, hcl, hsl, hlc, hls⟩
theorem G_retV (hG : Mach own cc nL mn R ret nt L xs Rt G) (hrt : ret = none) (hdg : decode cc pc = .ok (.return_, 1)) (h : Rt 0 M) : G pc [] ρ M := by
  obtain ⟨p, l, e, s, m, args, below, meth, c, dC, dI, cI, cC, cS, sA, A, n0, S0, ad0, Q, ⟨hx, hb, hml, hown, hts, hK, hA, hSt, hmn, hnL, hRI, hRV⟩, rfl⟩ := hG
  intro ad H locs cells slots ls hpt
  obtain ⟨⟨hP, hD, hS⟩, ⟨hM, hl, hvr, hvs⟩, ⟨⟨hn0, had0⟩, hsA⟩, hcn, hsn, hcl, hsl, hlc, hls⟩ := hpt
  exact hRV pc ρ M hrt hdg h ad H locs cells slots ls ⟨⟨hP, hD, hS⟩, ⟨hM, hl, hvr, hvs⟩, ⟨⟨hn0, had0⟩, hsA⟩, hcn, hsn, hcl, hsl, hlc, hls⟩
end RULES
end
section
/-! ===== statements, expressions, methods: their meaning ===== -/
abbrev IE : Type := (Int → Mm → Prop) → En → Mm → Prop
abbrev RE : Type := (Option Nat → Mm → Prop) → En → Mm → Prop
abbrev CE : Type := (Mm → Prop) → (Mm → Prop) → En → Mm → Prop
abbrev ST : Type := (En → Mm → Prop) → (Int → Mm → Prop) → En → Mm → Prop
abbrev AE : Type := (List Vv → Mm → Prop) → En → Mm → Prop
abbrev Mt : Type := List Vv → (Int → Mm → Prop) → Mm → Prop
def PcM (dC : Nat → ClassId) (dI : Nat → Nat → Nat) (cI cC cS : ClassId) (sA : Nat → Nat) (av : List Vv) (M : Mm) (ad : Nat → Nat) (sz : Nat) : Array Value → State → Prop :=
  va_Pc (av.map (cv ad)) (fun U => U.heap.size = sz ∧ va_P (dC, dI) vwCl (wsOf cI cC cS ad M) U.heap ∧ va_K (dC, dI) vwCl (tysOf cI cC cS) U ∧ va_D (fun _ => True) (wsOf cI cC cS ad M) ∧ StOK 3 0 (fun _ => 0) sA (va_A (wsOf cI cC cS ad M) sz) U U.heap)
def PuM (Rt : Int → Mm → Prop) (rm : Room) (sA : Nat → Nat) (M : Mm) (ad : Nat → Nat) (r : Int) (u : Mm × (Nat → Nat)) : Prop :=
  Rt r u.1 ∧ inR r ∧ MOK u.1 ∧ u.1.1.length = M.1.length + rm.cells ∧ ssum u.1.1 = ssum M.1 + rm.slots ∧ (∀ k, k < M.1.length → u.2 k = ad k) ∧ ∀ t, u.2 (1000000 + t) = sA t
def BM (dC : Nat → ClassId) (dI : Nat → Nat → Nat) (cI cC cS : ClassId) (A : Nat → Prop) (u : Mm × (Nat → Nat)) (t : State) : Prop :=
  va_P (dC, dI) vwCl (wsOf cI cC cS u.2 u.1) t.heap ∧ va_K (dC, dI) vwCl (tysOf cI cC cS) t ∧ va_D A (wsOf cI cC cS u.2 u.1)
/-- the contract of a method with an int for an answer -/
def MOkI (y : MethodName) (cy : ByteArray) (maxL : Nat) (rt : FieldType) (rm : Room) (Me : Mt) : Prop :=
  ∀ (l : Launch) (dC : Nat → ClassId) (dI : Nat → Nat → Nat) (cI cC cS : ClassId) (sA : Nat → Nat) (av : List Vv) (M : Mm) (ad : Nat → Nat) (sz : Nat) (Rt : Int → Mm → Prop),
    MOK M → (∀ v ∈ av, vok M v) → (∀ t, ad (1000000 + t) = sA t) → Me av Rt M →
    Met l y (.code y cy maxL (some rt) :: gtb) rm (PcM dC dI cI cC cS sA av M ad sz) (va_Qi (fun r32 u => ∃ r : Int, r32 = zI r ∧ PuM Rt rm sA M ad r u) (BM dC dI cI cC cS (va_A (wsOf cI cC cS ad M) sz)) (va_A (wsOf cI cC cS ad M) sz)) rm.cells rm.slots (va_A (wsOf cI cC cS ad M) sz)
/-- .. with none -/
def MOkV (y : MethodName) (cy : ByteArray) (maxL : Nat) (rm : Room) (Me : Mt) : Prop :=
  ∀ (l : Launch) (dC : Nat → ClassId) (dI : Nat → Nat → Nat) (cI cC cS : ClassId) (sA : Nat → Nat) (av : List Vv) (M : Mm) (ad : Nat → Nat) (sz : Nat) (Rt : Int → Mm → Prop),
    MOK M → (∀ v ∈ av, vok M v) → (∀ t, ad (1000000 + t) = sA t) → Me av Rt M →
    Met l y (.code y cy maxL none :: gtb) rm (PcM dC dI cI cC cS sA av M ad sz) (va_Qv (fun u => PuM Rt rm sA M ad 0 u) (BM dC dI cI cC cS (va_A (wsOf cI cC cS ad M) sz)) (va_A (wsOf cI cC cS ad M) sz)) rm.cells rm.slots (va_A (wsOf cI cC cS ad M) sz)
theorem StOK.to {nt L : Nat} {xs : Nat → Int} {sA : Nat → Nat} {A B : Nat → Prop} {s U : State} {H0 H : Heap} (h : StOK nt L xs sA A s H0) (hW : s.WarmedH U.vm) (hk : ∀ a : Nat, a < H0.size → ¬ A a → H[a]? = H0[a]?) (hz : H0.size ≤ H.size) (hAB : ∀ q, B q → A q) : StOK 3 0 (fun _ => 0) sA B U H := by
  obtain ⟨h1, h2, h3, h4, h5, h6⟩ := h
  have hal := hW.alike
  refine ⟨Nat.le_refl 3, fun t ht => ?_, fun t j => ?_, fun t ht => ?_, h5.moved hal, fun w hw => nest_mv (List.mem_filter.mp hw).2 hW (h6 w hw)⟩
  · obtain ⟨q1, q2, q3⟩ := h2 t (by omega)
    refine ⟨?_, by omega, fun h => q3 (hAB _ h)⟩
    have q4 := (q1.kept (hk (sA t) q2 q3)).moved hal
    simp only [tLn, tVl, ht, if_true] at q4 ⊢
    exact q4
  · by_cases ht : t < 3
    · have := h3 t j
      simp only [tVl, ht, if_true] at this ⊢
      exact this
    · simp only [tVl, ht, if_false]
      exact inR_0
  · exact (((h4 t ht).kept hk).narrow hAB).moved hal
theorem blind (dC : Nat → ClassId) (dI : Nat → Nat → Nat) (cI cC cS : ClassId) (sA : Nat → Nat) (av : List Vv) (M : Mm) (ad : Nat → Nat) (sz : Nat) : FrameBlind (PcM dC dI cI cC cS sA av M ad sz) := fun a U g mk q => by
  obtain ⟨q0, q1, qP, qK, qD, q2, q3, q4, q5, q6, q7⟩ := q
  exact ⟨q0, q1, qP, va_K.moved (u := U) (U := U.calling g mk a) (Vm.Alike.refl U.vm) qK, qD, q2, fun t ht => ⟨(q3 t ht).1.moved (Vm.Alike.refl U.vm), (q3 t ht).2⟩, q4, fun t ht => (q5 t ht).moved (Vm.Alike.refl U.vm), q6.moved (u := U) (U := U.calling g mk a) (Vm.Alike.refl U.vm), fun w hw => va_Nw.same (nest_on (List.mem_filter.mp hw).2) (u := U) (U := U.calling g mk a) rfl (q7 w hw)⟩
theorem cv_ext {M : Mm} {ad ad' : Nat → Nat} {sA : Nat → Nat} (h1 : ∀ k, k < M.1.length → ad' k = ad k) (h2 : ∀ t, ad (1000000 + t) = sA t) (h3 : ∀ t, ad' (1000000 + t) = sA t) {v : Vv} (hv : vok M v) : cv ad' v = cv ad v := by
  rcases v with z | _ | k
  · rfl
  · rfl
  · rcases hv with h | h
    · show Value.ref (ad' k) = Value.ref (ad k)
      rw [h1 k h]
    · obtain ⟨t, rfl⟩ := Nat.exists_eq_add_of_le h.1
      show Value.ref (ad' _) = Value.ref (ad _)
      rw [h2, h3]
theorem vok_mono {M M' : Mm} (h : M.1.length ≤ M'.1.length) {v : Vv} (hv : vok M v) : vok M' v := by
  rcases v with z | _ | k
  · exact hv
  · trivial
  · rcases hv with q | q
    · exact Or.inl (Nat.lt_of_lt_of_le q h)
    · exact Or.inr q
theorem cat_sum (ad : Nat → Nat) (sv : List Vv) : ((sv.map (cv ad)).map fun v => v.category).sum = sv.length := by
  induction sv with
  | nil => rfl
  | cons v t ih => simp only [List.map_cons, List.sum_cons, List.length_cons, cv_cat, ih]; omega
/-! ===== what the tables say of a call ===== -/
def yok (y : MethodName) (n : Nat) : Prop := y.cls ≠ "java/lang/invoke/MethodHandle" ∧ y.cls ≠ "java/lang/invoke/VarHandle" ∧ (parseMethodDescriptor y.desc).map (fun d => d.parameters.length) = some n
def CkV (own : String) (idx : Nat) (y : MethodName) (cy : ByteArray) (maxL : Nat) (ret : Option FieldType) (n : Nat) : Prop := (∀ w ∈ ([.methodLink own idx y, .instanceMethod y, .selects y.cls y y, .initialized y.cls, .code y cy maxL ret] : List Cond), w ∈ gtb) ∧ yok y n
def CkS (own : String) (idx : Nat) (y : MethodName) (cy : ByteArray) (maxL : Nat) (ret : Option FieldType) (n : Nat) : Prop := (∀ w ∈ ([.methodLink own idx y, .static y, .initialized own, .code y cy maxL ret] : List Cond), w ∈ gtb) ∧ y.cls = own ∧ yok y n
def CkN (own : String) (idx : Nat) (host : String) (y : MethodName) (cy : ByteArray) (maxL : Nat) (ret : Option FieldType) (n : Nat) : Prop := (∀ w ∈ ([.static y, .initialized y.cls, .code y cy maxL ret] : List Cond), w ∈ gtb) ∧ yok y n ∧ Cond.methodLinkNest own idx y host ∈ nestW
def CkI (own : String) (idx : Nat) (y : MethodName) (cy : ByteArray) (maxL : Nat) (n : Nat) : Prop := (∀ w ∈ ([.methodLink own idx y, .instanceMethod y, .initialized y.cls, .code y cy maxL none] : List Cond), w ∈ gtb) ∧ y.name = "<init>" ∧ yok y n
def CkIN (own : String) (idx : Nat) (host : String) (y : MethodName) (cy : ByteArray) (maxL : Nat) (n : Nat) : Prop := (∀ w ∈ ([.instanceMethod y, .initialized y.cls, .code y cy maxL none] : List Cond), w ∈ gtb) ∧ y.name = "<init>" ∧ yok y n ∧ Cond.methodLinkNest own idx y host ∈ nestW
theorem code_in {y : MethodName} {cy : ByteArray} {maxL : Nat} {ret : Option FieldType} (h : Cond.code y cy maxL ret ∈ gtb) : ∀ w ∈ (Cond.code y cy maxL ret :: gtb), w ∈ gtb := List.forall_mem_cons.mpr ⟨h, fun _ h => h⟩
def Rok (rm R : Room) (maxL : Nat) : Prop := rm.frames + 1 ≤ R.frames ∧ 8 + (maxL + 11) + rm.locals ≤ R.locals
section RULES
variable {own : String} {cc : ByteArray} {nL : Nat} {mn : String} {R : Room} {ret : Option FieldType} {nt L : Nat} {xs : Nat → Int} {Rt : Int → Mm → Prop} {G : Gt} {pc : Nat} {sv : List Vv} {ρ : En} {M : Mm}
theorem G_callVI (hG : Mach own cc nL mn R ret nt L xs Rt G) {idx n maxL : Nat} {y : MethodName} {cy : ByteArray} {rt : FieldType} {rm : Room} {Me : Mt} {av : List Vv} (hM : MOkI y cy maxL rt rm Me) (hR : Rok rm R maxL) (hlen0 : av.length = n + 1) (hsv : sv.length ≤ 8) (hdg : decode cc pc = .ok (.invokevirtual idx, 3)) (hk : CkV own idx y cy maxL (some rt) n) (h0 : rm.cells = 0 ∧ rm.slots = 0) {q ci w : Nat} {T : u_T} {N : Nat} (hci : ci < 8) (hcl0 : vwCl[ci]? = some (y.cls, T, N)) (hq0 : av[0]? = some (.inr (some q))) (hsh : M.1[q]? = some (ci, w)) {K : Int → Mm → Prop} (hMe : Me av K M) (k : ∀ r M2, K r M2 → G (pc + 3) (.inl r :: sv) ρ M2) : G pc (av.reverse ++ sv) ρ M := by
  obtain ⟨p, l, e, s, m, args, below, meth, c, dC, dI, cI, cC, cS, sA, A, n0, S0, ad0, Q, ⟨hx, hb, hml, hown, hts, hK, hA, hSt, hmn, hnL, hRI, hRV⟩, rfl⟩ := hG
  intro ad H locs cells slots ls hpt
  obtain ⟨⟨hP, hD, hS⟩, ⟨hM0, hl, hvr, hvs⟩, ⟨⟨hn0, had0⟩, hsA⟩, hcn, hsn, hcl, hsl, hlc, hls⟩ := hpt
  have hFc : ∀ q, va_A (wsOf cI cC cS ad M) H.size q → A q := fun q h => by
    rcases h with ⟨k, e0, h⟩ | h
    · exact hD.2 k (q, e0) h
    · exact hA q (Nat.le_trans hS.1 h)
  have hva : ∀ v ∈ av, vok M v := fun v hv => hvs v (List.mem_append_left _ (List.mem_reverse.mpr hv))
  have hvt : ∀ v ∈ sv, vok M v := fun v hv => hvs v (List.mem_append_right _ hv)
  have hpre : ∀ U : State, U.heap = H → s.WarmedH U.vm → PcM dC dI cI cC cS sA av M ad H.size ((av.map (cv ad)).toArray) U := fun U hU hW =>
    ⟨rfl, by rw [hU], by rw [hU]; exact hP, va_K.moved hW.alike hK, hD.weaken (fun _ _ _ _ => trivial), by rw [hU]; exact hSt.to hW (fun a h1 h2 => hS.2.1 a h1 h2) hS.1 hFc⟩
  have hMet := hM l dC dI cI cC cS sA av M ad H.size _ hM0 hva hsA hMe
  have he := ws_get (cI := cI) (cC := cC) (cS := cS) (ad := ad) hsh
  rw [cell_ob hci] at he
  obtain ⟨v0, as, rfl⟩ : ∃ v0 as, av = v0 :: as := by
    cases av with
    | nil => simp at hlen0
    | cons v0 as => exact ⟨v0, as, rfl⟩
  obtain rfl : v0 = .inr (some q) := by simpa using hq0
  rw [show (((Sum.inr (some q) :: as).reverse ++ sv).map (cv ad)) = ((as.map (cv ad)).reverse ++ .ref (ad q) :: sv.map (cv ad)) by simp [cv]]
  refine va_calli (va_runV (As := as.map (cv ad)) (rest := sv.map (cv ad)) ⟨hx, hb, hml, hown, hts⟩ hMet (cwV n hts (good_sub (fun w hw => by
    rcases List.mem_append.mp hw with h | h
    · exact hk.1 w (List.mem_append_left [Cond.code y cy maxL (some rt)] h)
    · exact code_in (hk.1 _ (by simp)) w h)) rfl rfl rfl ⟨rfl, hk.2⟩ hR) ⟨blind _ _ _ _ _ _ _ _ _ _, va_recv hK hP hcl0 he, fun U hU hW => hpre U hU hW⟩ rfl (by simpa using hlen0) hl.1 rfl (lv_room (by rw [cat_sum]; exact hsv)) hdg ⟨by rw [h0.1]; omega, by rw [h0.2]; omega⟩) hS (fun q _ h => hFc q h) hFc (fun r32 u t H1 locs1 ht hvm hpost hB hz1 hk1 hS1 => ?_)
  obtain ⟨r, hr, hRt, hrr, hMOK, hlen, hssum, had, hsA2⟩ := hpost
  obtain ⟨hP1, hK1, hD1⟩ := hB
  rw [ht] at hP1
  subst hr
  have hkk := k r u.1 hRt u.2 H1 locs1 (cells + rm.cells) (slots + rm.slots) ls ⟨⟨hP1, hD1.weaken (fun _ _ _ h => hFc _ h), hS1⟩, ⟨hMOK, env_ext hl (fun i hi => cv_ext had hsA hsA2 (hvr i (by omega))), fun i hi => vok_mono (by omega) (hvr i hi), List.forall_mem_cons.mpr ⟨hrr, fun v hv => vok_mono (by omega) (hvt v hv)⟩⟩, ⟨⟨by omega, fun k hk => (had k (by omega)).trans (had0 k hk)⟩, hsA2⟩, by omega, by omega, by omega, by omega, hlc, hls⟩
  have hsvm : sv.map (cv u.2) = sv.map (cv ad) := List.map_congr_left (fun v hv => cv_ext had hsA hsA2 (hvt v hv))
  rw [List.map_cons, hsvm] at hkk
  exact hkk
theorem G_callSI (hG : Mach own cc nL mn R ret nt L xs Rt G) {idx n maxL : Nat} {y : MethodName} {cy : ByteArray} {rt : FieldType} {rm : Room} {Me : Mt} {av : List Vv} (hM : MOkI y cy maxL rt rm Me) (hR : Rok rm R maxL) (hlen0 : av.length = n) (hsv : sv.length ≤ 8) (hdg : decode cc pc = .ok (.invokestatic idx, 3)) (hk : CkS own idx y cy maxL (some rt) n) (h0 : rm.cells = 0 ∧ rm.slots = 0) {K : Int → Mm → Prop} (hMe : Me av K M) (k : ∀ r M2, K r M2 → G (pc + 3) (.inl r :: sv) ρ M2) : G pc (av.reverse ++ sv) ρ M := by
  obtain ⟨p, l, e, s, m, args, below, meth, c, dC, dI, cI, cC, cS, sA, A, n0, S0, ad0, Q, ⟨hx, hb, hml, hown, hts, hK, hA, hSt, hmn, hnL, hRI, hRV⟩, rfl⟩ := hG
  intro ad H locs cells slots ls hpt
  obtain ⟨⟨hP, hD, hS⟩, ⟨hM0, hl, hvr, hvs⟩, ⟨⟨hn0, had0⟩, hsA⟩, hcn, hsn, hcl, hsl, hlc, hls⟩ := hpt
  have hFc : ∀ q, va_A (wsOf cI cC cS ad M) H.size q → A q := fun q h => by
    rcases h with ⟨k, e0, h⟩ | h
    · exact hD.2 k (q, e0) h
    · exact hA q (Nat.le_trans hS.1 h)
  have hva : ∀ v ∈ av, vok M v := fun v hv => hvs v (List.mem_append_left _ (List.mem_reverse.mpr hv))
  have hvt : ∀ v ∈ sv, vok M v := fun v hv => hvs v (List.mem_append_right _ hv)
  have hpre : ∀ U : State, U.heap = H → s.WarmedH U.vm → PcM dC dI cI cC cS sA av M ad H.size ((av.map (cv ad)).toArray) U := fun U hU hW =>
    ⟨rfl, by rw [hU], by rw [hU]; exact hP, va_K.moved hW.alike hK, hD.weaken (fun _ _ _ _ => trivial), by rw [hU]; exact hSt.to hW (fun a h1 h2 => hS.2.1 a h1 h2) hS.1 hFc⟩
  have hMet := hM l dC dI cI cC cS sA av M ad H.size _ hM0 hva hsA hMe
  rw [show ((av.reverse ++ sv).map (cv ad)) = ((av.map (cv ad)).reverse ++ sv.map (cv ad)) by simp]
  refine va_calli (va_runS (As := av.map (cv ad)) (rest := sv.map (cv ad)) ⟨hx, hb, hml, hown, hts⟩ hMet (cwS n hts (good_sub (fun w hw => by
    rcases List.mem_append.mp hw with h | h
    · exact hk.1 w (List.mem_append_left [Cond.code y cy maxL (some rt)] h)
    · exact code_in (hk.1 _ (by simp)) w h)) rfl rfl rfl hk.2 hR) ⟨blind _ _ _ _ _ _ _ _ _ _, fun U hU hW => hpre U hU hW⟩ rfl (by simpa using hlen0) hl.1 rfl (lv_room (by rw [cat_sum]; exact hsv)) hdg ⟨by rw [h0.1]; omega, by rw [h0.2]; omega⟩) hS (fun q _ h => hFc q h) hFc (fun r32 u t H1 locs1 ht hvm hpost hB hz1 hk1 hS1 => ?_)
  obtain ⟨r, hr, hRt, hrr, hMOK, hlen, hssum, had, hsA2⟩ := hpost
  obtain ⟨hP1, hK1, hD1⟩ := hB
  rw [ht] at hP1
  subst hr
  have hkk := k r u.1 hRt u.2 H1 locs1 (cells + rm.cells) (slots + rm.slots) ls ⟨⟨hP1, hD1.weaken (fun _ _ _ h => hFc _ h), hS1⟩, ⟨hMOK, env_ext hl (fun i hi => cv_ext had hsA hsA2 (hvr i (by omega))), fun i hi => vok_mono (by omega) (hvr i hi), List.forall_mem_cons.mpr ⟨hrr, fun v hv => vok_mono (by omega) (hvt v hv)⟩⟩, ⟨⟨by omega, fun k hk => (had k (by omega)).trans (had0 k hk)⟩, hsA2⟩, by omega, by omega, by omega, by omega, hlc, hls⟩
  have hsvm : sv.map (cv u.2) = sv.map (cv ad) := List.map_congr_left (fun v hv => cv_ext had hsA hsA2 (hvt v hv))
  rw [List.map_cons, hsvm] at hkk
  exact hkk
theorem G_callNI (hG : Mach own cc nL mn R ret nt L xs Rt G) {idx n maxL : Nat} {y : MethodName} {cy : ByteArray} {rt : FieldType} {rm : Room} {Me : Mt} {av : List Vv} (hM : MOkI y cy maxL rt rm Me) (hR : Rok rm R maxL) (hlen0 : av.length = n) (hsv : sv.length ≤ 8) (hdg : decode cc pc = .ok (.invokestatic idx, 3)) {host : String} (hk : CkN own idx host y cy maxL (some rt) n) (h0 : rm.cells = 0 ∧ rm.slots = 0) {K : Int → Mm → Prop} (hMe : Me av K M) (k : ∀ r M2, K r M2 → G (pc + 3) (.inl r :: sv) ρ M2) : G pc (av.reverse ++ sv) ρ M := by
  obtain ⟨p, l, e, s, m, args, below, meth, c, dC, dI, cI, cC, cS, sA, A, n0, S0, ad0, Q, ⟨hx, hb, hml, hown, hts, hK, hA, hSt, hmn, hnL, hRI, hRV⟩, rfl⟩ := hG
  intro ad H locs cells slots ls hpt
  obtain ⟨⟨hP, hD, hS⟩, ⟨hM0, hl, hvr, hvs⟩, ⟨⟨hn0, had0⟩, hsA⟩, hcn, hsn, hcl, hsl, hlc, hls⟩ := hpt
  have hFc : ∀ q, va_A (wsOf cI cC cS ad M) H.size q → A q := fun q h => by
    rcases h with ⟨k, e0, h⟩ | h
    · exact hD.2 k (q, e0) h
    · exact hA q (Nat.le_trans hS.1 h)
  have hva : ∀ v ∈ av, vok M v := fun v hv => hvs v (List.mem_append_left _ (List.mem_reverse.mpr hv))
  have hvt : ∀ v ∈ sv, vok M v := fun v hv => hvs v (List.mem_append_right _ hv)
  have hpre : ∀ U : State, U.heap = H → s.WarmedH U.vm → PcM dC dI cI cC cS sA av M ad H.size ((av.map (cv ad)).toArray) U := fun U hU hW =>
    ⟨rfl, by rw [hU], by rw [hU]; exact hP, va_K.moved hW.alike hK, hD.weaken (fun _ _ _ _ => trivial), by rw [hU]; exact hSt.to hW (fun a h1 h2 => hS.2.1 a h1 h2) hS.1 hFc⟩
  have hMet := hM l dC dI cI cC cS sA av M ad H.size _ hM0 hva hsA hMe
  rw [show ((av.reverse ++ sv).map (cv ad)) = ((av.map (cv ad)).reverse ++ sv.map (cv ad)) by simp]
  refine va_calli (va_runSN (As := av.map (cv ad)) (rest := sv.map (cv ad)) ⟨hx, hb, hml, hown, hts⟩ hMet ⟨va_cnB (host := host) n hts (good_sub (code_in (hk.1 _ (by simp)))) rfl rfl rfl (hSt.2.2.2.2.2 _ hk.2.2) (hts _ (hk.1 _ (by simp))) hk.2.1 hR, hts _ (hk.1 _ (by simp)), trivial⟩ ⟨blind _ _ _ _ _ _ _ _ _ _, fun U hU hW => hpre U hU hW⟩ rfl (by simpa using hlen0) hl.1 rfl (lv_room (by rw [cat_sum]; exact hsv)) hdg ⟨by rw [h0.1]; omega, by rw [h0.2]; omega⟩) hS (fun q _ h => hFc q h) hFc (fun r32 u t H1 locs1 ht hvm hpost hB hz1 hk1 hS1 => ?_)
  obtain ⟨r, hr, hRt, hrr, hMOK, hlen, hssum, had, hsA2⟩ := hpost
  obtain ⟨hP1, hK1, hD1⟩ := hB
  rw [ht] at hP1
  subst hr
  have hkk := k r u.1 hRt u.2 H1 locs1 (cells + rm.cells) (slots + rm.slots) ls ⟨⟨hP1, hD1.weaken (fun _ _ _ h => hFc _ h), hS1⟩, ⟨hMOK, env_ext hl (fun i hi => cv_ext had hsA hsA2 (hvr i (by omega))), fun i hi => vok_mono (by omega) (hvr i hi), List.forall_mem_cons.mpr ⟨hrr, fun v hv => vok_mono (by omega) (hvt v hv)⟩⟩, ⟨⟨by omega, fun k hk => (had k (by omega)).trans (had0 k hk)⟩, hsA2⟩, by omega, by omega, by omega, by omega, hlc, hls⟩
  have hsvm : sv.map (cv u.2) = sv.map (cv ad) := List.map_congr_left (fun v hv => cv_ext had hsA hsA2 (hvt v hv))
  rw [List.map_cons, hsvm] at hkk
  exact hkk
theorem G_callVV (hG : Mach own cc nL mn R ret nt L xs Rt G) {idx n maxL : Nat} {y : MethodName} {cy : ByteArray} {rm : Room} {Me : Mt} {av : List Vv} (hM : MOkV y cy maxL rm Me) (hR : Rok rm R maxL) (hlen0 : av.length = n + 1) (hsv : sv.length ≤ 8) (hdg : decode cc pc = .ok (.invokevirtual idx, 3)) (hk : CkV own idx y cy maxL none n) (h0 : rm.cells = 0 ∧ rm.slots = 0) {q ci w : Nat} {T : u_T} {N : Nat} (hci : ci < 8) (hcl0 : vwCl[ci]? = some (y.cls, T, N)) (hq0 : av[0]? = some (.inr (some q))) (hsh : M.1[q]? = some (ci, w)) {K : Int → Mm → Prop} (hMe : Me av K M) (k : ∀ r M2, K r M2 → G (pc + 3) (sv) ρ M2) : G pc (av.reverse ++ sv) ρ M := by
  obtain ⟨p, l, e, s, m, args, below, meth, c, dC, dI, cI, cC, cS, sA, A, n0, S0, ad0, Q, ⟨hx, hb, hml, hown, hts, hK, hA, hSt, hmn, hnL, hRI, hRV⟩, rfl⟩ := hG
  intro ad H locs cells slots ls hpt
  obtain ⟨⟨hP, hD, hS⟩, ⟨hM0, hl, hvr, hvs⟩, ⟨⟨hn0, had0⟩, hsA⟩, hcn, hsn, hcl, hsl, hlc, hls⟩ := hpt
  have hFc : ∀ q, va_A (wsOf cI cC cS ad M) H.size q → A q := fun q h => by
    rcases h with ⟨k, e0, h⟩ | h
    · exact hD.2 k (q, e0) h
    · exact hA q (Nat.le_trans hS.1 h)
  have hva : ∀ v ∈ av, vok M v := fun v hv => hvs v (List.mem_append_left _ (List.mem_reverse.mpr hv))
  have hvt : ∀ v ∈ sv, vok M v := fun v hv => hvs v (List.mem_append_right _ hv)
  have hpre : ∀ U : State, U.heap = H → s.WarmedH U.vm → PcM dC dI cI cC cS sA av M ad H.size ((av.map (cv ad)).toArray) U := fun U hU hW =>
    ⟨rfl, by rw [hU], by rw [hU]; exact hP, va_K.moved hW.alike hK, hD.weaken (fun _ _ _ _ => trivial), by rw [hU]; exact hSt.to hW (fun a h1 h2 => hS.2.1 a h1 h2) hS.1 hFc⟩
  have hMet := hM l dC dI cI cC cS sA av M ad H.size _ hM0 hva hsA hMe
  have he := ws_get (cI := cI) (cC := cC) (cS := cS) (ad := ad) hsh
  rw [cell_ob hci] at he
  obtain ⟨v0, as, rfl⟩ : ∃ v0 as, av = v0 :: as := by
    cases av with
    | nil => simp at hlen0
    | cons v0 as => exact ⟨v0, as, rfl⟩
  obtain rfl : v0 = .inr (some q) := by simpa using hq0
  rw [show (((Sum.inr (some q) :: as).reverse ++ sv).map (cv ad)) = ((as.map (cv ad)).reverse ++ .ref (ad q) :: sv.map (cv ad)) by simp [cv]]
  refine va_callv (va_runV (As := as.map (cv ad)) (rest := sv.map (cv ad)) ⟨hx, hb, hml, hown, hts⟩ hMet (cwV n hts (good_sub (fun w hw => by
    rcases List.mem_append.mp hw with h | h
    · exact hk.1 w (List.mem_append_left [Cond.code y cy maxL none] h)
    · exact code_in (hk.1 _ (by simp)) w h)) rfl rfl rfl ⟨rfl, hk.2⟩ hR) ⟨blind _ _ _ _ _ _ _ _ _ _, va_recv hK hP hcl0 he, fun U hU hW => hpre U hU hW⟩ rfl (by simpa using hlen0) hl.1 rfl (lv_room (by rw [cat_sum]; exact hsv)) hdg ⟨by rw [h0.1]; omega, by rw [h0.2]; omega⟩) hS (fun q _ h => hFc q h) hFc (fun u t H1 locs1 ht hvm hpost hB hz1 hk1 hS1 => ?_)
  obtain ⟨hRt, hrr, hMOK, hlen, hssum, had, hsA2⟩ := hpost
  obtain ⟨hP1, hK1, hD1⟩ := hB
  rw [ht] at hP1
  have hkk := k 0 u.1 hRt u.2 H1 locs1 (cells + rm.cells) (slots + rm.slots) ls ⟨⟨hP1, hD1.weaken (fun _ _ _ h => hFc _ h), hS1⟩, ⟨hMOK, env_ext hl (fun i hi => cv_ext had hsA hsA2 (hvr i (by omega))), fun i hi => vok_mono (by omega) (hvr i hi), (fun v hv => vok_mono (by omega) (hvt v hv))⟩, ⟨⟨by omega, fun k hk => (had k (by omega)).trans (had0 k hk)⟩, hsA2⟩, by omega, by omega, by omega, by omega, hlc, hls⟩
  have hsvm : sv.map (cv u.2) = sv.map (cv ad) := List.map_congr_left (fun v hv => cv_ext had hsA hsA2 (hvt v hv))
  rw [hsvm] at hkk
  exact hkk
theorem G_callSV (hG : Mach own cc nL mn R ret nt L xs Rt G) {idx n maxL : Nat} {y : MethodName} {cy : ByteArray} {rm : Room} {Me : Mt} {av : List Vv} (hM : MOkV y cy maxL rm Me) (hR : Rok rm R maxL) (hlen0 : av.length = n) (hsv : sv.length ≤ 8) (hdg : decode cc pc = .ok (.invokestatic idx, 3)) (hk : CkS own idx y cy maxL none n) (h0 : rm.cells = 0 ∧ rm.slots = 0) {K : Int → Mm → Prop} (hMe : Me av K M) (k : ∀ r M2, K r M2 → G (pc + 3) (sv) ρ M2) : G pc (av.reverse ++ sv) ρ M := by
  obtain ⟨p, l, e, s, m, args, below, meth, c, dC, dI, cI, cC, cS, sA, A, n0, S0, ad0, Q, ⟨hx, hb, hml, hown, hts, hK, hA, hSt, hmn, hnL, hRI, hRV⟩, rfl⟩ := hG
  intro ad H locs cells slots ls hpt
  obtain ⟨⟨hP, hD, hS⟩, ⟨hM0, hl, hvr, hvs⟩, ⟨⟨hn0, had0⟩, hsA⟩, hcn, hsn, hcl, hsl, hlc, hls⟩ := hpt
  have hFc : ∀ q, va_A (wsOf cI cC cS ad M) H.size q → A q := fun q h => by
    rcases h with ⟨k, e0, h⟩ | h
    · exact hD.2 k (q, e0) h
    · exact hA q (Nat.le_trans hS.1 h)
  have hva : ∀ v ∈ av, vok M v := fun v hv => hvs v (List.mem_append_left _ (List.mem_reverse.mpr hv))
  have hvt : ∀ v ∈ sv, vok M v := fun v hv => hvs v (List.mem_append_right _ hv)
  have hpre : ∀ U : State, U.heap = H → s.WarmedH U.vm → PcM dC dI cI cC cS sA av M ad H.size ((av.map (cv ad)).toArray) U := fun U hU hW =>
    ⟨rfl, by rw [hU], by rw [hU]; exact hP, va_K.moved hW.alike hK, hD.weaken (fun _ _ _ _ => trivial), by rw [hU]; exact hSt.to hW (fun a h1 h2 => hS.2.1 a h1 h2) hS.1 hFc⟩
  have hMet := hM l dC dI cI cC cS sA av M ad H.size _ hM0 hva hsA hMe
  rw [show ((av.reverse ++ sv).map (cv ad)) = ((av.map (cv ad)).reverse ++ sv.map (cv ad)) by simp]
  refine va_callv (va_runS (As := av.map (cv ad)) (rest := sv.map (cv ad)) ⟨hx, hb, hml, hown, hts⟩ hMet (cwS n hts (good_sub (fun w hw => by
    rcases List.mem_append.mp hw with h | h
    · exact hk.1 w (List.mem_append_left [Cond.code y cy maxL none] h)
    · exact code_in (hk.1 _ (by simp)) w h)) rfl rfl rfl hk.2 hR) ⟨blind _ _ _ _ _ _ _ _ _ _, fun U hU hW => hpre U hU hW⟩ rfl (by simpa using hlen0) hl.1 rfl (lv_room (by rw [cat_sum]; exact hsv)) hdg ⟨by rw [h0.1]; omega, by rw [h0.2]; omega⟩) hS (fun q _ h => hFc q h) hFc (fun u t H1 locs1 ht hvm hpost hB hz1 hk1 hS1 => ?_)
  obtain ⟨hRt, hrr, hMOK, hlen, hssum, had, hsA2⟩ := hpost
  obtain ⟨hP1, hK1, hD1⟩ := hB
  rw [ht] at hP1
  have hkk := k 0 u.1 hRt u.2 H1 locs1 (cells + rm.cells) (slots + rm.slots) ls ⟨⟨hP1, hD1.weaken (fun _ _ _ h => hFc _ h), hS1⟩, ⟨hMOK, env_ext hl (fun i hi => cv_ext had hsA hsA2 (hvr i (by omega))), fun i hi => vok_mono (by omega) (hvr i hi), (fun v hv => vok_mono (by omega) (hvt v hv))⟩, ⟨⟨by omega, fun k hk => (had k (by omega)).trans (had0 k hk)⟩, hsA2⟩, by omega, by omega, by omega, by omega, hlc, hls⟩
  have hsvm : sv.map (cv u.2) = sv.map (cv ad) := List.map_congr_left (fun v hv => cv_ext had hsA hsA2 (hvt v hv))
  rw [hsvm] at hkk
  exact hkk
theorem G_callI (hG : Mach own cc nL mn R ret nt L xs Rt G) {idx n maxL : Nat} {y : MethodName} {cy : ByteArray} {rm : Room} {Me : Mt} {av : List Vv} (hM : MOkV y cy maxL rm Me) (hR : Rok rm R maxL) (hlen0 : av.length = n + 1) (hsv : sv.length ≤ 8) (hdg : decode cc pc = .ok (.invokespecial idx, 3)) (hk : CkI own idx y cy maxL n) (hcap : M.1.length + rm.cells ≤ limC ρ ∧ ssum M.1 + rm.slots ≤ limS ρ) {q : Nat} (hq0 : av[0]? = some (.inr (some q))) {K : Int → Mm → Prop} (hMe : Me av K M) (k : ∀ r M2, K r M2 → G (pc + 3) (sv) ρ M2) : G pc (av.reverse ++ sv) ρ M := by
  obtain ⟨p, l, e, s, m, args, below, meth, c, dC, dI, cI, cC, cS, sA, A, n0, S0, ad0, Q, ⟨hx, hb, hml, hown, hts, hK, hA, hSt, hmn, hnL, hRI, hRV⟩, rfl⟩ := hG
  intro ad H locs cells slots ls hpt
  obtain ⟨⟨hP, hD, hS⟩, ⟨hM0, hl, hvr, hvs⟩, ⟨⟨hn0, had0⟩, hsA⟩, hcn, hsn, hcl, hsl, hlc, hls⟩ := hpt
  have hFc : ∀ q, va_A (wsOf cI cC cS ad M) H.size q → A q := fun q h => by
    rcases h with ⟨k, e0, h⟩ | h
    · exact hD.2 k (q, e0) h
    · exact hA q (Nat.le_trans hS.1 h)
  have hva : ∀ v ∈ av, vok M v := fun v hv => hvs v (List.mem_append_left _ (List.mem_reverse.mpr hv))
  have hvt : ∀ v ∈ sv, vok M v := fun v hv => hvs v (List.mem_append_right _ hv)
  have hpre : ∀ U : State, U.heap = H → s.WarmedH U.vm → PcM dC dI cI cC cS sA av M ad H.size ((av.map (cv ad)).toArray) U := fun U hU hW =>
    ⟨rfl, by rw [hU], by rw [hU]; exact hP, va_K.moved hW.alike hK, hD.weaken (fun _ _ _ _ => trivial), by rw [hU]; exact hSt.to hW (fun a h1 h2 => hS.2.1 a h1 h2) hS.1 hFc⟩
  have hMet := hM l dC dI cI cC cS sA av M ad H.size _ hM0 hva hsA hMe
  obtain ⟨v0, as, rfl⟩ : ∃ v0 as, av = v0 :: as := by
    cases av with
    | nil => simp at hlen0
    | cons v0 as => exact ⟨v0, as, rfl⟩
  obtain rfl : v0 = .inr (some q) := by simpa using hq0
  rw [show (((Sum.inr (some q) :: as).reverse ++ sv).map (cv ad)) = ((as.map (cv ad)).reverse ++ .ref (ad q) :: sv.map (cv ad)) by simp [cv]]
  refine va_callv (va_runI (As := as.map (cv ad)) (rest := sv.map (cv ad)) ⟨hx, hb, hml, hown, hts⟩ hMet (cwI n hts (good_sub (code_in (hk.1 _ (by simp)))) rfl rfl rfl (hts _ (hk.1 _ (by simp))) (hts _ (hk.1 _ (by simp))) (hts _ (hk.1 _ (by simp))) hk.2.1 hk.2.2 hR) ⟨blind _ _ _ _ _ _ _ _ _ _, fun U hU hW => hpre U hU hW⟩ rfl (by simpa using hlen0) hl.1 rfl (lv_room (by rw [cat_sum]; exact hsv)) hdg ⟨by omega, by omega⟩) hS (fun q _ h => hFc q h) hFc (fun u t H1 locs1 ht hvm hpost hB hz1 hk1 hS1 => ?_)
  obtain ⟨hRt, hrr, hMOK, hlen, hssum, had, hsA2⟩ := hpost
  obtain ⟨hP1, hK1, hD1⟩ := hB
  rw [ht] at hP1
  have hkk := k 0 u.1 hRt u.2 H1 locs1 (cells + rm.cells) (slots + rm.slots) ls ⟨⟨hP1, hD1.weaken (fun _ _ _ h => hFc _ h), hS1⟩, ⟨hMOK, env_ext hl (fun i hi => cv_ext had hsA hsA2 (hvr i (by omega))), fun i hi => vok_mono (by omega) (hvr i hi), (fun v hv => vok_mono (by omega) (hvt v hv))⟩, ⟨⟨by omega, fun k hk => (had k (by omega)).trans (had0 k hk)⟩, hsA2⟩, by omega, by omega, by omega, by omega, hlc, hls⟩
  have hsvm : sv.map (cv u.2) = sv.map (cv ad) := List.map_congr_left (fun v hv => cv_ext had hsA hsA2 (hvt v hv))
  rw [hsvm] at hkk
  exact hkk
theorem G_callIN (hG : Mach own cc nL mn R ret nt L xs Rt G) {idx n maxL : Nat} {y : MethodName} {cy : ByteArray} {rm : Room} {Me : Mt} {av : List Vv} (hM : MOkV y cy maxL rm Me) (hR : Rok rm R maxL) (hlen0 : av.length = n + 1) (hsv : sv.length ≤ 8) (hdg : decode cc pc = .ok (.invokespecial idx, 3)) {host : String} (hk : CkIN own idx host y cy maxL n) (hcap : M.1.length + rm.cells ≤ limC ρ ∧ ssum M.1 + rm.slots ≤ limS ρ) {q : Nat} (hq0 : av[0]? = some (.inr (some q))) {K : Int → Mm → Prop} (hMe : Me av K M) (k : ∀ r M2, K r M2 → G (pc + 3) (sv) ρ M2) : G pc (av.reverse ++ sv) ρ M := by
  obtain ⟨p, l, e, s, m, args, below, meth, c, dC, dI, cI, cC, cS, sA, A, n0, S0, ad0, Q, ⟨hx, hb, hml, hown, hts, hK, hA, hSt, hmn, hnL, hRI, hRV⟩, rfl⟩ := hG
  intro ad H locs cells slots ls hpt
  obtain ⟨⟨hP, hD, hS⟩, ⟨hM0, hl, hvr, hvs⟩, ⟨⟨hn0, had0⟩, hsA⟩, hcn, hsn, hcl, hsl, hlc, hls⟩ := hpt
  have hFc : ∀ q, va_A (wsOf cI cC cS ad M) H.size q → A q := fun q h => by
    rcases h with ⟨k, e0, h⟩ | h
    · exact hD.2 k (q, e0) h
    · exact hA q (Nat.le_trans hS.1 h)
  have hva : ∀ v ∈ av, vok M v := fun v hv => hvs v (List.mem_append_left _ (List.mem_reverse.mpr hv))
  have hvt : ∀ v ∈ sv, vok M v := fun v hv => hvs v (List.mem_append_right _ hv)
  have hpre : ∀ U : State, U.heap = H → s.WarmedH U.vm → PcM dC dI cI cC cS sA av M ad H.size ((av.map (cv ad)).toArray) U := fun U hU hW =>
    ⟨rfl, by rw [hU], by rw [hU]; exact hP, va_K.moved hW.alike hK, hD.weaken (fun _ _ _ _ => trivial), by rw [hU]; exact hSt.to hW (fun a h1 h2 => hS.2.1 a h1 h2) hS.1 hFc⟩
  have hMet := hM l dC dI cI cC cS sA av M ad H.size _ hM0 hva hsA hMe
  obtain ⟨v0, as, rfl⟩ : ∃ v0 as, av = v0 :: as := by
    cases av with
    | nil => simp at hlen0
    | cons v0 as => exact ⟨v0, as, rfl⟩
  obtain rfl : v0 = .inr (some q) := by simpa using hq0
  rw [show (((Sum.inr (some q) :: as).reverse ++ sv).map (cv ad)) = ((as.map (cv ad)).reverse ++ .ref (ad q) :: sv.map (cv ad)) by simp [cv]]
  refine va_callv (va_runIN (As := as.map (cv ad)) (rest := sv.map (cv ad)) ⟨hx, hb, hml, hown, hts⟩ hMet ⟨va_cnB (host := host) n hts (good_sub (code_in (hk.1 _ (by simp)))) rfl rfl rfl (hSt.2.2.2.2.2 _ hk.2.2.2) (hts _ (hk.1 _ (by simp))) hk.2.2.1 hR, hk.2.1, hts _ (hk.1 _ (by simp))⟩ ⟨blind _ _ _ _ _ _ _ _ _ _, fun U hU hW => hpre U hU hW⟩ rfl (by simpa using hlen0) hl.1 rfl (lv_room (by rw [cat_sum]; exact hsv)) hdg ⟨by omega, by omega⟩) hS (fun q _ h => hFc q h) hFc (fun u t H1 locs1 ht hvm hpost hB hz1 hk1 hS1 => ?_)
  obtain ⟨hRt, hrr, hMOK, hlen, hssum, had, hsA2⟩ := hpost
  obtain ⟨hP1, hK1, hD1⟩ := hB
  rw [ht] at hP1
  have hkk := k 0 u.1 hRt u.2 H1 locs1 (cells + rm.cells) (slots + rm.slots) ls ⟨⟨hP1, hD1.weaken (fun _ _ _ h => hFc _ h), hS1⟩, ⟨hMOK, env_ext hl (fun i hi => cv_ext had hsA hsA2 (hvr i (by omega))), fun i hi => vok_mono (by omega) (hvr i hi), (fun v hv => vok_mono (by omega) (hvt v hv))⟩, ⟨⟨by omega, fun k hk => (had k (by omega)).trans (had0 k hk)⟩, hsA2⟩, by omega, by omega, by omega, by omega, hlc, hls⟩
  have hsvm : sv.map (cv u.2) = sv.map (cv ad) := List.map_congr_left (fun v hv => cv_ext had hsA hsA2 (hvt v hv))
  rw [hsvm] at hkk
  exact hkk
end RULES
end
section
theorem ssum_app (a b : List (Nat × Nat)) : ssum (a ++ b) = ssum a + ssum b := by simp [ssum]
theorem ext_up {M : Mm} {ad : Nat → Nat} (hM : MOK M) (a : Nat) : ∀ k, k < M.1.length → va_up ad M.1.length a k = ad k := fun k hk => va_up_ne _ _ (by omega)
theorem cell_pu {cI cC cS : ClassId} {M : Mm} (hM : MOK M) {ad ad' : Nat → Nat} {w0 : Nat × Nat} (had : ∀ k, k < M.1.length → ad' k = ad k) (q : Nat) (w : Nat × Nat) : cellE cI cC cS ad' (pu M w0) q w = cellE cI cC cS ad M q w := by
  have hr : ∀ j, (M.2.2 q j).map ad' = (M.2.2 q j).map ad := fun j => by
    cases e : M.2.2 q j with
    | none => rfl
    | some k => simp only [Option.map_some]; rw [had k (hM.2.2.1 q j k e)]
  have hf : fvs ad' (pu M w0) q (clR w.1) = fvs ad M q (clR w.1) := by
    unfold fvs
    apply List.map_congr_left
    intro k _
    show (if _ then va_rf ((M.2.2 q k).map ad') else _) = _
    rw [hr]
    rfl
  unfold cellE
  rw [hf]
  have hg : (fun j => ((pu M w0).2.2 q j).map ad') = fun j => (M.2.2 q j).map ad := funext hr
  rw [hg]
  rfl
theorem ws_pu {cI cC cS : ClassId} {M : Mm} (hM : MOK M) {ad : Nat → Nat} {a : Nat} {w : Nat × Nat} : wsOf cI cC cS ad M ++ [(a, cellE cI cC cS ad M M.1.length w)] = wsOf cI cC cS (va_up ad M.1.length a) (pu M w) := by
  apply List.ext_getElem?
  intro i
  have hpl : (pu M w).1.length = M.1.length + 1 := by simp [pu]
  rcases Nat.lt_trichotomy i M.1.length with h | h | h
  · rw [List.getElem?_append_left (by rw [ws_len]; exact h)]
    obtain ⟨w', hw⟩ : ∃ w', M.1[i]? = some w' := ⟨_, List.getElem?_eq_getElem h⟩
    rw [ws_get hw, ws_get (M := pu M w) (w := w') (by show (M.1 ++ [w])[i]? = _; rw [List.getElem?_append_left h]; exact hw), cell_pu hM (ext_up hM a), ext_up hM a i h]
  · subst h
    rw [List.getElem?_append_right (by rw [ws_len]; exact Nat.le_refl _), ws_len, Nat.sub_self]
    rw [ws_get (M := pu M w) (w := w) (by show (M.1 ++ [w])[M.1.length]? = _; simp), cell_pu hM (ext_up hM a), va_up_self]
    rfl
  · rw [List.getElem?_eq_none (by simp [ws_len]; omega), List.getElem?_eq_none (by rw [ws_len, hpl]; omega)]
/-- what the tables say of a new object -/
def Nok (own : String) (idx ci : Nat) : Prop := ∃ (C : String) (T : u_T) (N : Nat) (ty : Nat → FieldType), vwCl[ci]? = some (C, T, N) ∧ (∀ w ∈ u_ws C T N, w ∈ gtb) ∧ (∀ k, k < N → parseFieldDescriptor (T k).2.2.1 = some (ty k)) ∧ Cond.classLink own idx C ∈ gtb ∧ Cond.instantiable C N ∈ gtb ∧ Cond.initialized C ∈ gtb ∧ ci < 8 ∧ (clR ci).length = N ∧ ∀ j, j < N → defaultValue (ty j) = if (clR ci).getD j false = true then .null else .int 0
section RULES
variable {own : String} {cc : ByteArray} {nL : Nat} {mn : String} {R : Room} {ret : Option FieldType} {nt L : Nat} {xs : Nat → Int} {Rt : Int → Mm → Prop} {G : Gt} {pc : Nat} {sv : List Vv} {ρ : En} {M : Mm}
theorem G_new (hG : Mach own cc nL mn R ret nt L xs Rt G) {idx ci : Nat} (F : Nok own idx ci) (hcap : M.1.length + 1 ≤ limC ρ ∧ ssum M.1 + (clR ci).length ≤ limS ρ) (hbig : M.1.length + 1 ≤ 1000000) (hdg : decode cc pc = .ok (.new idx, 3)) (k : G (pc + 3) (.inr (some M.1.length) :: sv) ρ (pu M (ci, 0))) : G pc sv ρ M := by
  obtain ⟨p, l, e, s, m, args, below, meth, c, dC, dI, cI, cC, cS, sA, A, n0, S0, ad0, Q, ⟨hx, hb, hml, hown, hts, hK, hA, hSt, hmn, hnL, hRI, hRV⟩, rfl⟩ := hG
  intro ad H locs cells slots ls hpt
  obtain ⟨⟨hP, hD, hS⟩, ⟨hM, hl, hvr, hvs⟩, ⟨⟨hn0, had0⟩, hsA⟩, hcn, hsn, hcl, hsl, hlc, hls⟩ := hpt
  obtain ⟨C, T, N, ty, hc, hin, hty, hcl1, hins, hini, hci, hlN, hdf⟩ := F
  have hfs : ∀ j, j < N → defaultValue (ty j) = vp_V (fvs ad M M.1.length (clR ci)) j := fun j hj => by
    rw [hdf j hj]
    obtain ⟨b, hb⟩ : ∃ b, (clR ci)[j]? = some b := ⟨_, List.getElem?_eq_getElem (by omega)⟩
    unfold vp_V
    rw [List.getD_eq_getElem?_getD, List.getD_eq_getElem?_getD, fvs_get hb, hb]
    obtain ⟨h1, h2⟩ := hM.2.2.2 M.1.length j (Nat.le_refl _)
    rw [h1, h2]
    cases b <;> rfl
  refine va_new hx hb hts hin ty hty hown (hts _ hcl1) (hts _ hins) (hts _ hini) hK hP hD hS hA hc hfs (by omega) (by omega) hdg (fun q H1 hP1 hD1 hS1 => ?_)
  rw [← cell_ob (cI := cI) (cC := cC) (cS := cS) (w := 0) hci, ws_pu hM] at hP1 hD1
  subst hlN
  have hM := hM
  have hadn : ∀ k, k < M.1.length → va_up ad M.1.length q k = ad k := ext_up hM q
  have hsA1 : ∀ t, va_up ad M.1.length q (1000000 + t) = sA t := fun t => by rw [va_up_ne _ _ (by have := hM.1; omega)]; exact hsA t
  have hpl : (pu M (ci, 0)).1.length = M.1.length + 1 := by simp [pu]
  have hps : ssum (pu M (ci, 0)).1 = ssum M.1 + (clR ci).length := by rw [show (pu M (ci, 0)).1 = M.1 ++ [(ci, 0)] from rfl, ssum_app]; simp [ssum, ssz, hci]
  have hsvm : sv.map (cv (va_up ad M.1.length q)) = sv.map (cv ad) := List.map_congr_left (fun v hv => cv_ext hadn hsA hsA1 (hvs v hv))
  have hkk := k (va_up ad M.1.length q) H1 locs (cells + 1) (slots + (clR ci).length) ls ⟨⟨hP1, hD1, hS1⟩, ⟨MOK_pu hM (by omega), env_ext hl (fun i hi => cv_ext hadn hsA hsA1 (hvr i (by omega))), fun i hi => vok_pu (hvr i hi), List.forall_mem_cons.mpr ⟨Or.inl (by rw [hpl]; omega), fun v hv => vok_pu (hvs v hv)⟩⟩, ⟨⟨by rw [hpl]; omega, fun k hk => (hadn k (by omega)).trans (had0 k hk)⟩, hsA1⟩, by rw [hpl]; omega, by rw [hps]; omega, by omega, by omega, hlc, hls⟩
  rw [List.map_cons, hsvm, show cv (va_up ad M.1.length q) (.inr (some M.1.length)) = .ref q by show Value.ref _ = _; rw [va_up_self]] at hkk
  exact hkk
theorem G_newI (hG : Mach own cc nL mn R ret nt L xs Rt G) {z : Int} {n : Nat} (hz0 : z = n) (hnr : n ≤ 100000000) (hac : Cond.arrayClass .int ∈ gtb) (hcap : M.1.length + 1 ≤ limC ρ ∧ ssum M.1 + n ≤ limS ρ) (hbig : M.1.length + 1 ≤ 1000000) (hdg : decode cc pc = .ok (.newarray .int, 2)) (k : G (pc + 2) (.inr (some M.1.length) :: sv) ρ (pu M (20, n))) : G pc (.inl z :: sv) ρ M := by
  obtain ⟨p, l, e, s, m, args, below, meth, c, dC, dI, cI, cC, cS, sA, A, n0, S0, ad0, Q, ⟨hx, hb, hml, hown, hts, hK, hA, hSt, hmn, hnL, hRI, hRV⟩, rfl⟩ := hG
  intro ad H locs cells slots ls hpt
  obtain ⟨⟨hP, hD, hS⟩, ⟨hM, hl, hvr, hvs⟩, ⟨⟨hn0, had0⟩, hsA⟩, hcn, hsn, hcl, hsl, hlc, hls⟩ := hpt
  subst hz0
  have hzr : inR (n : Int) := ⟨by omega, by omega⟩
  refine va_newa (N' := n) (atype := .int) (a0 := (n, .inl (fun j => zI (M.2.1 M.1.length j)))) (ty := .int) hx hb (hts _ hac) rfl hK hP hD hS hA (fun cA => ?_) (fun h => ?_) ((zI_cl hzr).trans (Int.toNat_natCast n)) (by show n * _ ≤ _; simp [componentBytes]; omega) (by omega) (by omega) hdg (fun q cA H1 hK1 hP1 hD1 hS1 => ?_)
  · rw [vp_cell_i]
    congr 1
    funext j
    rw [(hM.2.2.2 M.1.length j (Nat.le_refl _)).1]
    rfl
  · rw [← zI_0, zI_lt hzr inR_0] at h
    omega
  have hcA : cA = cI := by
    have h1 := (hK1.2 3 (cA, .int) rfl).2
    have h2 := (hK.2 0 (cI, .int) rfl).2
    have h3 : s.vm.findClass _ = some cA := h1
    have h4 : s.vm.findClass _ = some cI := h2
    rw [h3] at h4
    exact Option.some.inj h4
  subst hcA
  rw [← cell_in, ws_pu hM] at hP1 hD1
  have hM := hM
  have hadn : ∀ k, k < M.1.length → va_up ad M.1.length q k = ad k := ext_up hM q
  have hsA1 : ∀ t, va_up ad M.1.length q (1000000 + t) = sA t := fun t => by rw [va_up_ne _ _ (by have := hM.1; omega)]; exact hsA t
  have hpl : (pu M (20, n)).1.length = M.1.length + 1 := by simp [pu]
  have hps : ssum (pu M (20, n)).1 = ssum M.1 + n := by rw [show (pu M (20, n)).1 = M.1 ++ [(20, n)] from rfl, ssum_app]; simp [ssum, ssz]
  have hsvm : sv.map (cv (va_up ad M.1.length q)) = sv.map (cv ad) := List.map_congr_left (fun v hv => cv_ext hadn hsA hsA1 (hvs v (List.mem_cons_of_mem _ hv)))
  have hkk := k (va_up ad M.1.length q) H1 locs (cells + 1) (slots + n) ls ⟨⟨hP1, hD1, hS1⟩, ⟨MOK_pu hM (by omega), env_ext hl (fun i hi => cv_ext hadn hsA hsA1 (hvr i (by omega))), fun i hi => vok_pu (hvr i hi), List.forall_mem_cons.mpr ⟨Or.inl (by rw [hpl]; omega), fun v hv => vok_pu (hvs v (List.mem_cons_of_mem _ hv))⟩⟩, ⟨⟨by rw [hpl]; omega, fun k hk => (hadn k (by omega)).trans (had0 k hk)⟩, hsA1⟩, by rw [hpl]; omega, by rw [hps]; omega, by omega, by omega, hlc, hls⟩
  rw [List.map_cons, hsvm, show cv (va_up ad M.1.length q) (.inr (some M.1.length)) = .ref q by show Value.ref _ = _; rw [va_up_self]] at hkk
  exact hkk
theorem G_newC (hG : Mach own cc nL mn R ret nt L xs Rt G) {z : Int} {n : Nat} (hz0 : z = n) (hnr : n ≤ 100000000) (hac : Cond.arrayClass .char ∈ gtb) (hcap : M.1.length + 1 ≤ limC ρ ∧ ssum M.1 + n ≤ limS ρ) (hbig : M.1.length + 1 ≤ 1000000) (hdg : decode cc pc = .ok (.newarray .char, 2)) (k : G (pc + 2) (.inr (some M.1.length) :: sv) ρ (pu M (21, n))) : G pc (.inl z :: sv) ρ M := by
  obtain ⟨p, l, e, s, m, args, below, meth, c, dC, dI, cI, cC, cS, sA, A, n0, S0, ad0, Q, ⟨hx, hb, hml, hown, hts, hK, hA, hSt, hmn, hnL, hRI, hRV⟩, rfl⟩ := hG
  intro ad H locs cells slots ls hpt
  obtain ⟨⟨hP, hD, hS⟩, ⟨hM, hl, hvr, hvs⟩, ⟨⟨hn0, had0⟩, hsA⟩, hcn, hsn, hcl, hsl, hlc, hls⟩ := hpt
  subst hz0
  have hzr : inR (n : Int) := ⟨by omega, by omega⟩
  refine va_newa (N' := n) (atype := .char) (a0 := (n, .inl (fun j => zI (M.2.1 M.1.length j)))) (ty := .char) hx hb (hts _ hac) rfl hK hP hD hS hA (fun cA => ?_) (fun h => ?_) ((zI_cl hzr).trans (Int.toNat_natCast n)) (by show n * _ ≤ _; simp [componentBytes]; omega) (by omega) (by omega) hdg (fun q cA H1 hK1 hP1 hD1 hS1 => ?_)
  · rw [vp_cell_i]
    congr 1
    funext j
    rw [(hM.2.2.2 M.1.length j (Nat.le_refl _)).1]
    rfl
  · rw [← zI_0, zI_lt hzr inR_0] at h
    omega
  have hcA : cA = cC := by
    have h1 := (hK1.2 3 (cA, .char) rfl).2
    have h2 := (hK.2 1 (cC, .char) rfl).2
    have h3 : s.vm.findClass _ = some cA := h1
    have h4 : s.vm.findClass _ = some cC := h2
    rw [h3] at h4
    exact Option.some.inj h4
  subst hcA
  rw [← cell_ch, ws_pu hM] at hP1 hD1
  have hM := hM
  have hadn : ∀ k, k < M.1.length → va_up ad M.1.length q k = ad k := ext_up hM q
  have hsA1 : ∀ t, va_up ad M.1.length q (1000000 + t) = sA t := fun t => by rw [va_up_ne _ _ (by have := hM.1; omega)]; exact hsA t
  have hpl : (pu M (21, n)).1.length = M.1.length + 1 := by simp [pu]
  have hps : ssum (pu M (21, n)).1 = ssum M.1 + n := by rw [show (pu M (21, n)).1 = M.1 ++ [(21, n)] from rfl, ssum_app]; simp [ssum, ssz]
  have hsvm : sv.map (cv (va_up ad M.1.length q)) = sv.map (cv ad) := List.map_congr_left (fun v hv => cv_ext hadn hsA hsA1 (hvs v (List.mem_cons_of_mem _ hv)))
  have hkk := k (va_up ad M.1.length q) H1 locs (cells + 1) (slots + n) ls ⟨⟨hP1, hD1, hS1⟩, ⟨MOK_pu hM (by omega), env_ext hl (fun i hi => cv_ext hadn hsA hsA1 (hvr i (by omega))), fun i hi => vok_pu (hvr i hi), List.forall_mem_cons.mpr ⟨Or.inl (by rw [hpl]; omega), fun v hv => vok_pu (hvs v (List.mem_cons_of_mem _ hv))⟩⟩, ⟨⟨by rw [hpl]; omega, fun k hk => (hadn k (by omega)).trans (had0 k hk)⟩, hsA1⟩, by rw [hpl]; omega, by rw [hps]; omega, by omega, by omega, hlc, hls⟩
  rw [List.map_cons, hsvm, show cv (va_up ad M.1.length q) (.inr (some M.1.length)) = .ref q by show Value.ref _ = _; rw [va_up_self]] at hkk
  exact hkk
theorem G_newR (hG : Mach own cc nL mn R ret nt L xs Rt G) {z : Int} {n idx : Nat} (hz0 : z = n) (hnr : n ≤ 100000000) (hcl1 : Cond.classLink own idx "SungSlides$State" ∈ gtb) (hcap : M.1.length + 1 ≤ limC ρ ∧ ssum M.1 + n ≤ limS ρ) (hbig : M.1.length + 1 ≤ 1000000) (hdg : decode cc pc = .ok (.anewarray idx, 3)) (k : G (pc + 3) (.inr (some M.1.length) :: sv) ρ (pu M (22, n))) : G pc (.inl z :: sv) ρ M := by
  obtain ⟨p, l, e, s, m, args, below, meth, c, dC, dI, cI, cC, cS, sA, A, n0, S0, ad0, Q, ⟨hx, hb, hml, hown, hts, hK, hA, hSt, hmn, hnL, hRI, hRV⟩, rfl⟩ := hG
  intro ad H locs cells slots ls hpt
  obtain ⟨⟨hP, hD, hS⟩, ⟨hM, hl, hvr, hvs⟩, ⟨⟨hn0, had0⟩, hsA⟩, hcn, hsn, hcl, hsl, hlc, hls⟩ := hpt
  subst hz0
  have hzr : inR (n : Int) := ⟨by omega, by omega⟩
  refine va_newq (C := "SungSlides$State") (N' := n) hx hb hown (hts _ hcl1) hSt.2.2.2.2.1 hK hP hD hS hA (fun h => ?_) ((zI_cl hzr).trans (Int.toNat_natCast n)) (by omega) (by omega) (by omega) hdg (fun q cA H1 hK1 hP1 hD1 hS1 => ?_)
  · rw [← zI_0, zI_lt hzr inR_0] at h
    omega
  have hcA : cA = cS := by
    obtain ⟨-, -, -, -, -, h1⟩ := (hK1.2 3 (cA, .object "SungSlides$State") rfl).2
    obtain ⟨-, -, -, -, -, h2⟩ := (hK.2 2 (cS, .object "SungSlides$State") rfl).2
    rw [h1] at h2
    exact Option.some.inj h2
  subst hcA
  have hce : cellE cI cC cA ad M M.1.length (22, n) = .inl (cA, n, .inr (.inr (.inr (.inr (fun _ => none))))) := by
    rw [cell_rf]
    have : (fun j => (M.2.2 M.1.length j).map ad) = fun _ => none := by
      funext j
      rw [(hM.2.2.2 M.1.length j (Nat.le_refl _)).2]
      rfl
    rw [this]
  rw [← hce, ws_pu hM] at hP1 hD1
  have hM := hM
  have hadn : ∀ k, k < M.1.length → va_up ad M.1.length q k = ad k := ext_up hM q
  have hsA1 : ∀ t, va_up ad M.1.length q (1000000 + t) = sA t := fun t => by rw [va_up_ne _ _ (by have := hM.1; omega)]; exact hsA t
  have hpl : (pu M (22, n)).1.length = M.1.length + 1 := by simp [pu]
  have hps : ssum (pu M (22, n)).1 = ssum M.1 + n := by rw [show (pu M (22, n)).1 = M.1 ++ [(22, n)] from rfl, ssum_app]; simp [ssum, ssz]
  have hsvm : sv.map (cv (va_up ad M.1.length q)) = sv.map (cv ad) := List.map_congr_left (fun v hv => cv_ext hadn hsA hsA1 (hvs v (List.mem_cons_of_mem _ hv)))
  have hkk := k (va_up ad M.1.length q) H1 locs (cells + 1) (slots + n) ls ⟨⟨hP1, hD1, hS1⟩, ⟨MOK_pu hM (by omega), env_ext hl (fun i hi => cv_ext hadn hsA hsA1 (hvr i (by omega))), fun i hi => vok_pu (hvr i hi), List.forall_mem_cons.mpr ⟨Or.inl (by rw [hpl]; omega), fun v hv => vok_pu (hvs v (List.mem_cons_of_mem _ hv))⟩⟩, ⟨⟨by rw [hpl]; omega, fun k hk => (hadn k (by omega)).trans (had0 k hk)⟩, hsA1⟩, by rw [hpl]; omega, by rw [hps]; omega, by omega, by omega, hlc, hls⟩
  rw [List.map_cons, hsvm, show cv (va_up ad M.1.length q) (.inr (some M.1.length)) = .ref q by show Value.ref _ = _; rw [va_up_self]] at hkk
  exact hkk
theorem G_mmax (hG : Mach own cc nL mn R ret nt L xs Rt G) {x y : Int} {idx : Nat} (hk : ∀ w ∈ ([.methodLink own idx Lib.Math.max.name, .static Lib.Math.max.name, .initialized "java/lang/Math", .code Lib.Math.max.name Lib.Math.max.code 2 (some .int)] : List Cond), w ∈ gtb) (hR : 1 ≤ R.frames ∧ sv.length + 13 ≤ R.locals) (hdg : decode cc pc = .ok (.invokestatic idx, 3)) (k : G (pc + 3) (.inl (if x < y then y else x) :: sv) ρ M) : G pc (.inl y :: .inl x :: sv) ρ M := by
  obtain ⟨p, l, e, s, m, args, below, meth, c, dC, dI, cI, cC, cS, sA, A, n0, S0, ad0, Q, ⟨hx, hb, hml, hown, hts, hK, hA, hSt, hmn, hnL, hRI, hRV⟩, rfl⟩ := hG
  intro ad H locs cells slots ls hpt
  obtain ⟨⟨hP, hD, hS⟩, ⟨hM, hl, hvr, hvs⟩, ⟨⟨hn0, had0⟩, hsA⟩, hcn, hsn, hcl, hsl, hlc, hls⟩ := hpt
  have hxr : inR x := (hvs _ (List.mem_cons_of_mem _ List.mem_cons_self))
  have hyr : inR y := (hvs _ List.mem_cons_self)
  have hz : inR (if x < y then y else x) := by split <;> assumption
  refine va_mmax hx hb (hml.trans hl.1.symm) hown (hts _ (hk _ (by simp))) (hts _ (hk _ (by simp))) (hts _ (hk _ (by simp))) (hts _ (hk _ (by simp))) hR.1 (by rw [cat_sum]; exact hR.2) hcl hsl hdg ?_
  have hkk := k ad H locs cells slots ls ⟨⟨hP, hD, hS⟩, ⟨hM, hl, hvr, (List.forall_mem_cons.mpr ⟨hz, (fun v hv => hvs v (List.mem_cons_of_mem _ (List.mem_cons_of_mem _ hv)))⟩)⟩, ⟨⟨hn0, had0⟩, hsA⟩, hcn, hsn, hcl, hsl, hlc, hls⟩
  have he : (if zI x < zI y then zI y else zI x) = zI (if x < y then y else x) := by
    simp only [zI_lt hxr hyr]
    split <;> first | rfl | (rw [← zI_0, zI_sub])
  rw [he]
  exact hkk
theorem G_mmin (hG : Mach own cc nL mn R ret nt L xs Rt G) {x y : Int} {idx : Nat} (hk : ∀ w ∈ ([.methodLink own idx Lib.Math.min.name, .static Lib.Math.min.name, .initialized "java/lang/Math", .code Lib.Math.min.name Lib.Math.min.code 2 (some .int)] : List Cond), w ∈ gtb) (hR : 1 ≤ R.frames ∧ sv.length + 13 ≤ R.locals) (hdg : decode cc pc = .ok (.invokestatic idx, 3)) (k : G (pc + 3) (.inl (if y < x then y else x) :: sv) ρ M) : G pc (.inl y :: .inl x :: sv) ρ M := by
  obtain ⟨p, l, e, s, m, args, below, meth, c, dC, dI, cI, cC, cS, sA, A, n0, S0, ad0, Q, ⟨hx, hb, hml, hown, hts, hK, hA, hSt, hmn, hnL, hRI, hRV⟩, rfl⟩ := hG
  intro ad H locs cells slots ls hpt
  obtain ⟨⟨hP, hD, hS⟩, ⟨hM, hl, hvr, hvs⟩, ⟨⟨hn0, had0⟩, hsA⟩, hcn, hsn, hcl, hsl, hlc, hls⟩ := hpt
  have hxr : inR x := (hvs _ (List.mem_cons_of_mem _ List.mem_cons_self))
  have hyr : inR y := (hvs _ List.mem_cons_self)
  have hz : inR (if y < x then y else x) := by split <;> assumption
  refine va_mmin hx hb (hml.trans hl.1.symm) hown (hts _ (hk _ (by simp))) (hts _ (hk _ (by simp))) (hts _ (hk _ (by simp))) (hts _ (hk _ (by simp))) hR.1 (by rw [cat_sum]; exact hR.2) hcl hsl hdg ?_
  have hkk := k ad H locs cells slots ls ⟨⟨hP, hD, hS⟩, ⟨hM, hl, hvr, (List.forall_mem_cons.mpr ⟨hz, (fun v hv => hvs v (List.mem_cons_of_mem _ (List.mem_cons_of_mem _ hv)))⟩)⟩, ⟨⟨hn0, had0⟩, hsA⟩, hcn, hsn, hcl, hsl, hlc, hls⟩
  have he : (if zI y < zI x then zI y else zI x) = zI (if y < x then y else x) := by
    simp only [zI_lt hyr hxr]
    split <;> first | rfl | (rw [← zI_0, zI_sub])
  rw [he]
  exact hkk
theorem G_mabs (hG : Mach own cc nL mn R ret nt L xs Rt G) {x : Int} {idx : Nat} (hk : ∀ w ∈ ([.methodLink own idx Lib.Math.abs.name, .static Lib.Math.abs.name, .initialized "java/lang/Math", .code Lib.Math.abs.name Lib.Math.abs.code 1 (some .int)] : List Cond), w ∈ gtb) (hR : 1 ≤ R.frames ∧ sv.length + 13 ≤ R.locals) (hz : inR (if 0 ≤ x then x else 0 - x)) (hdg : decode cc pc = .ok (.invokestatic idx, 3)) (k : G (pc + 3) (.inl (if 0 ≤ x then x else 0 - x) :: sv) ρ M) : G pc (.inl x :: sv) ρ M := by
  obtain ⟨p, l, e, s, m, args, below, meth, c, dC, dI, cI, cC, cS, sA, A, n0, S0, ad0, Q, ⟨hx, hb, hml, hown, hts, hK, hA, hSt, hmn, hnL, hRI, hRV⟩, rfl⟩ := hG
  intro ad H locs cells slots ls hpt
  obtain ⟨⟨hP, hD, hS⟩, ⟨hM, hl, hvr, hvs⟩, ⟨⟨hn0, had0⟩, hsA⟩, hcn, hsn, hcl, hsl, hlc, hls⟩ := hpt
  have hxr : inR x := (hvs _ List.mem_cons_self)
  refine va_mabs hx hb (hml.trans hl.1.symm) hown (hts _ (hk _ (by simp))) (hts _ (hk _ (by simp))) (hts _ (hk _ (by simp))) (hts _ (hk _ (by simp))) hR.1 (by rw [cat_sum]; exact hR.2) hcl hsl hdg ?_
  have hkk := k ad H locs cells slots ls ⟨⟨hP, hD, hS⟩, ⟨hM, hl, hvr, (List.forall_mem_cons.mpr ⟨hz, (fun v hv => hvs v (List.mem_cons_of_mem _ hv))⟩)⟩, ⟨⟨hn0, had0⟩, hsA⟩, hcn, hsn, hcl, hsl, hlc, hls⟩
  have he : (if 0 ≤ zI x then zI x else 0 - zI x) = zI (if 0 ≤ x then x else 0 - x) := by
    simp only [show (0 ≤ zI x) = (0 ≤ x) from propext (by rw [← zI_0]; exact zI_le inR_0 hxr)]
    split <;> first | rfl | (rw [← zI_0, zI_sub])
  rw [he]
  exact hkk
theorem G_objI (hG : Mach own cc nL mn R ret nt L xs Rt G) {idx q : Nat} (hk : ∀ w ∈ ([.methodLink own idx Lib.objectInit, .instanceMethod Lib.objectInit, .code Lib.objectInit ⟨#[0xb1]⟩ 1 none] : List Cond), w ∈ gtb) (hR : 1 ≤ R.frames ∧ sv.length + 12 ≤ R.locals) (hdg : decode cc pc = .ok (.invokespecial idx, 3)) (k : G (pc + 3) sv ρ M) : G pc (.inr (some q) :: sv) ρ M := by
  obtain ⟨p, l, e, s, m, args, below, meth, c, dC, dI, cI, cC, cS, sA, A, n0, S0, ad0, Q, ⟨hx, hb, hml, hown, hts, hK, hA, hSt, hmn, hnL, hRI, hRV⟩, rfl⟩ := hG
  intro ad H locs cells slots ls hpt
  obtain ⟨⟨hP, hD, hS⟩, ⟨hM, hl, hvr, hvs⟩, ⟨⟨hn0, had0⟩, hsA⟩, hcn, hsn, hcl, hsl, hlc, hls⟩ := hpt
  refine W.objInit hx hb hown (hts _ (hk _ (by simp))) (hts _ (hk _ (by simp))) (hts _ (hk _ (by simp))) rfl (hl.1.trans hml.symm) rfl hdg hR.1 (by rw [cat_sum]; exact (by have := hR.2; show 2 * 0 + _ + 12 ≤ _; omega)) ?_
  exact k ad H locs cells slots ls ⟨⟨hP, hD, hS⟩, ⟨hM, hl, hvr, (fun v hv => hvs v (List.mem_cons_of_mem _ hv))⟩, ⟨⟨hn0, had0⟩, hsA⟩, hcn, hsn, hcl, hsl, hlc, hls⟩
/-- a stretch of ints is copied -/
def cpy (M : Mm) (q0 q1 : Nat) (sp dp n : Nat) : Mm := (M.1, fun q k => if q = q1 ∧ dp ≤ k ∧ k < dp + n then M.2.1 q0 (sp + (k - dp)) else M.2.1 q k, M.2.2)
def cpyT (f : Nat → Int) (M : Mm) (q1 : Nat) (sp dp n : Nat) : Mm := (M.1, fun q k => if q = q1 ∧ dp ≤ k ∧ k < dp + n then f (sp + (k - dp)) else M.2.1 q k, M.2.2)
theorem MOK_cpyT {f : Nat → Int} {M : Mm} {q1 sp dp n : Nat} (h : MOK M) (hf : ∀ j, inR (f j)) (hq : q1 < M.1.length) : MOK (cpyT f M q1 sp dp n) := by
  refine ⟨h.1, fun a b => ?_, h.2.2.1, fun a b hab => ⟨?_, (h.2.2.2 a b hab).2⟩⟩
  · show inR (if a = q1 ∧ dp ≤ b ∧ b < dp + n then f (sp + (b - dp)) else M.2.1 a b)
    split
    · exact hf _
    · exact h.2.1 a b
  · have hab' : M.1.length ≤ a := hab
    show (if a = q1 ∧ dp ≤ b ∧ b < dp + n then f (sp + (b - dp)) else M.2.1 a b) = 0
    rw [if_neg (by omega)]
    exact (h.2.2.2 a b hab).1
theorem MOK_cpy {M : Mm} {q0 q1 sp dp n : Nat} (h : MOK M) (hq : q1 < M.1.length) : MOK (cpy M q0 q1 sp dp n) := MOK_cpyT (f := M.2.1 q0) h (h.2.1 q0) hq
theorem cell_cpyT {cI cC cS : ClassId} {ad : Nat → Nat} {f : Nat → Int} {M : Mm} {q1 sp dp n : Nat} : ∀ r w', r ≠ q1 → cellE cI cC cS ad (cpyT f M q1 sp dp n) r w' = cellE cI cC cS ad M r w' := by
  intro r w' hr
  simp [cellE, fvs, cpyT, hr]
theorem cpy_fun {f : Nat → Int} {M : Mm} {q1 sp dp n : Nat} : va_cpy (fun j => zI (f j)) (fun j => zI (M.2.1 q1 j)) sp dp n = fun j => zI ((cpyT f M q1 sp dp n).2.1 q1 j) := by
  funext j
  by_cases h : dp ≤ j ∧ j < dp + n <;> simp [va_cpy, cpyT, h]
theorem G_copy (hG : Mach own cc nL mn R ret nt L xs Rt G) {idx q0 q1 n0 n1 : Nat} {sp dp n : Int} (hk : ∀ w ∈ ([.methodLink own idx arraycopyName, .native arraycopyName, .static arraycopyName, .initialized "java/lang/System"] : List Cond), w ∈ gtb) (hR : 1 ≤ R.frames ∧ sv.length + 18 ≤ R.locals) (hs0 : M.1[q0]? = some (20, n0)) (hs1 : M.1[q1]? = some (20, n1)) (h1 : 0 ≤ sp) (h2 : 0 ≤ dp) (h3 : 0 ≤ n) (h4 : sp + n ≤ (n0 : Int)) (h5 : dp + n ≤ (n1 : Int)) (hdg : decode cc pc = .ok (.invokestatic idx, 3)) (k : G (pc + 3) sv ρ (cpy M q0 q1 sp.toNat dp.toNat n.toNat)) : G pc (.inl n :: .inl dp :: .inr (some q1) :: .inl sp :: .inr (some q0) :: sv) ρ M := by
  obtain ⟨p, l, e, s, m, args, below, meth, c, dC, dI, cI, cC, cS, sA, A, n0, S0, ad0, Q, ⟨hx, hb, hml, hown, hts, hK, hA, hSt, hmn, hnL, hRI, hRV⟩, rfl⟩ := hG
  intro ad H locs cells slots ls hpt
  obtain ⟨⟨hP, hD, hS⟩, ⟨hM, hl, hvr, hvs⟩, ⟨⟨hn0, had0⟩, hsA⟩, hcn, hsn, hcl, hsl, hlc, hls⟩ := hpt
  have hspr : inR sp := hvs (.inl sp) (by simp)
  have hdpr : inR dp := hvs (.inl dp) (by simp)
  have hnr : inR n := hvs (.inl n) (by simp)
  have hneg : ∀ {z : Int}, inR z → 0 ≤ z → ¬ zI z < 0 := fun hz h0 h => by
    rw [← zI_0, zI_lt hz inR_0] at h
    omega
  have hq1l : q1 < M.1.length := (List.getElem?_eq_some_iff.mp hs1).1
  have he0 := ws_get (cI := cI) (cC := cC) (cS := cS) (ad := ad) hs0
  have he1 := ws_get (cI := cI) (cC := cC) (cS := cS) (ad := ad) hs1
  rw [cell_in] at he0 he1
  have hup := ws_upd (cI := cI) (cC := cC) (cS := cS) (ad := ad) (M' := cpyT (M.2.1 q0) M q1 sp.toNat dp.toNat n.toNat) hs1 rfl cell_cpyT
  rw [cell_in, ← cpy_fun] at hup
  refine va_copyi hx hb (hml.trans hl.1.symm) hown (hts _ (hk _ (by simp))) (hts _ (hk _ (by simp))) (hts _ (hk _ (by simp))) (hts _ (hk _ (by simp))) hK hP hD hS q0 q1 0 0 he0 he1 (show (tysOf cI cC cS)[0]? = some (cI, .int) from rfl) (show (tysOf cI cC cS)[0]? = some (cI, .int) from rfl) rfl (hneg hspr h1) (hneg hdpr h2) (hneg hnr h3) (by rw [zI_cl hspr, zI_cl hnr]; omega) (by rw [zI_cl hdpr, zI_cl hnr]; omega) (fun _ _ => rfl) hR.1 (by rw [cat_sum]; have := hR.2; show _ + (7 + 11) ≤ _; omega) hdg (fun H1 locs1 hP1 hD1 hS1 => ?_)
  rw [zI_cl hspr, zI_cl hnr, zI_cl hdpr, hup] at hP1 hD1
  exact k ad H1 locs1 cells slots ls ⟨⟨hP1, hD1, hS1⟩, ⟨MOK_cpy hM hq1l, hl, hvr, (fun v hv => hvs v (List.mem_cons_of_mem _ (List.mem_cons_of_mem _ (List.mem_cons_of_mem _ (List.mem_cons_of_mem _ (List.mem_cons_of_mem _ hv))))))⟩, ⟨⟨hn0, had0⟩, hsA⟩, hcn, hsn, hcl, hsl, hlc, hls⟩
theorem G_copyT (hG : Mach own cc nL mn R ret nt L xs Rt G) {idx t q1 n1 : Nat} {sp dp n : Int} (hk : ∀ w ∈ ([.methodLink own idx arraycopyName, .native arraycopyName, .static arraycopyName, .initialized "java/lang/System"] : List Cond), w ∈ gtb) (hR : 1 ≤ R.frames ∧ sv.length + 18 ≤ R.locals) (ht : t < 3) (hs1 : M.1[q1]? = some (20, n1)) (h1 : 0 ≤ sp) (h2 : 0 ≤ dp) (h3 : 0 ≤ n) (h4 : sp + n ≤ 5) (h5 : dp + n ≤ (n1 : Int)) (hdg : decode cc pc = .ok (.invokestatic idx, 3)) (k : G (pc + 3) sv ρ (cpyT (tVl xs t) M q1 sp.toNat dp.toNat n.toNat)) : G pc (.inl n :: .inl dp :: .inr (some q1) :: .inl sp :: .inr (some (1000000 + t)) :: sv) ρ M := by
  obtain ⟨p, l, e, s, m, args, below, meth, c, dC, dI, cI, cC, cS, sA, A, n0, S0, ad0, Q, ⟨hx, hb, hml, hown, hts, hK, hA, hSt, hmn, hnL, hRI, hRV⟩, rfl⟩ := hG
  intro ad H locs cells slots ls hpt
  obtain ⟨⟨hP, hD, hS⟩, ⟨hM, hl, hvr, hvs⟩, ⟨⟨hn0, had0⟩, hsA⟩, hcn, hsn, hcl, hsl, hlc, hls⟩ := hpt
  have hspr : inR sp := hvs (.inl sp) (by simp)
  have hdpr : inR dp := hvs (.inl dp) (by simp)
  have hnr : inR n := hvs (.inl n) (by simp)
  have hneg : ∀ {z : Int}, inR z → 0 ≤ z → ¬ zI z < 0 := fun hz h0 h => by
    rw [← zI_0, zI_lt hz inR_0] at h
    omega
  have hq1l : q1 < M.1.length := (List.getElem?_eq_some_iff.mp hs1).1
  obtain ⟨hX, hbl, hbA⟩ := hSt.2.1 t (by have := hSt.1; omega)
  have he1 := ws_get (cI := cI) (cC := cC) (cS := cS) (ad := ad) hs1
  rw [cell_in] at he1
  have hup := ws_upd (cI := cI) (cC := cC) (cS := cS) (ad := ad) (M' := cpyT (tVl xs t) M q1 sp.toNat dp.toNat n.toNat) hs1 rfl cell_cpyT
  rw [cell_in, ← cpy_fun] at hup
  simp only [List.map_cons]
  rw [show cv ad (.inr (some (1000000 + t))) = .ref (sA t) by rw [← hsA]; rfl]
  refine va_copyx hx hb (hml.trans hl.1.symm) hown (hts _ (hk _ (by simp))) (hts _ (hk _ (by simp))) (hts _ (hk _ (by simp))) (hts _ (hk _ (by simp))) hK hP hD hS hX hbl hbA q1 0 he1 (show (tysOf cI cC cS)[0]? = some (cI, .int) from rfl) (hneg hspr h1) (hneg hdpr h2) (hneg hnr h3) (by rw [zI_cl hspr, zI_cl hnr, tLn, if_pos ht]; omega) (by rw [zI_cl hdpr, zI_cl hnr]; omega) hR.1 (by rw [cat_sum]; have := hR.2; show _ + (7 + 11) ≤ _; omega) hdg (fun H1 locs1 hP1 hD1 hS1 => ?_)
  rw [zI_cl hspr, zI_cl hnr, zI_cl hdpr, hup] at hP1 hD1
  exact k ad H1 locs1 cells slots ls ⟨⟨hP1, hD1, hS1⟩, ⟨MOK_cpyT hM (hSt.2.2.1 t) hq1l, hl, hvr, (fun v hv => hvs v (List.mem_cons_of_mem _ (List.mem_cons_of_mem _ (List.mem_cons_of_mem _ (List.mem_cons_of_mem _ (List.mem_cons_of_mem _ hv))))))⟩, ⟨⟨hn0, had0⟩, hsA⟩, hcn, hsn, hcl, hsl, hlc, hls⟩
end RULES
end
section
/-! ===== expressions ===== -/
def iC (z : Int) : IE := fun K _ M => K z M
def iL (i : Nat) : IE := fun K ρ M => match ρ i with
  | .inl z => K z M
  | _ => False
def iF (ci j : Nat) (r : RE) : IE := fun K ρ M => r (fun o M => match o with
  | some q => (∃ w, M.1[q]? = some (ci, w)) ∧ K (M.2.1 q j) M
  | none => False) ρ M
def iA (r : RE) (i : IE) : IE := fun K ρ M => r (fun o M => i (fun x M => match o with
  | some q => ∃ n : Nat, M.1[q]? = some (20, n) ∧ 0 ≤ x ∧ x < (n : Int) ∧ K (M.2.1 q x.toNat) M
  | none => False) ρ M) ρ M
def iAc (r : RE) (i : IE) : IE := fun K ρ M => r (fun o M => i (fun x M => match o with
  | some q => ∃ n : Nat, M.1[q]? = some (21, n) ∧ 0 ≤ x ∧ x < (n : Int) ∧ K (M.2.1 q x.toNat) M
  | none => False) ρ M) ρ M
def iLen (r : RE) : IE := fun K ρ M => r (fun o M => match o with
  | some q => ∃ n : Nat, M.1[q]? = some (20, n) ∧ n < 2147483648 ∧ K (n : Int) M
  | none => False) ρ M
/-- of a table: a static one, or the script -/
def iT (L : Nat) (xs : Nat → Int) (t : Nat) (i : IE) : IE := fun K ρ M => i (fun x M => 0 ≤ x ∧ x < (tLn L t : Int) ∧ K (tVl xs t x.toNat) M) ρ M
def iTn (L t : Nat) : IE := fun K _ M => K (tLn L t : Int) M
def iAdd (a b : IE) : IE := fun K ρ M => a (fun x M => b (fun y M => inR (x + y) ∧ K (x + y) M) ρ M) ρ M
def iSub (a b : IE) : IE := fun K ρ M => a (fun x M => b (fun y M => inR (x - y) ∧ K (x - y) M) ρ M) ρ M
def iMul (a b : IE) : IE := fun K ρ M => a (fun x M => b (fun y M => inR (x * y) ∧ K (x * y) M) ρ M) ρ M
def iDiv (a b : IE) : IE := fun K ρ M => a (fun x M => b (fun y M => y ≠ 0 ∧ inR (x.tdiv y) ∧ K (x.tdiv y) M) ρ M) ρ M
def iRem (a b : IE) : IE := fun K ρ M => a (fun x M => b (fun y M => y ≠ 0 ∧ inR (x.tmod y) ∧ K (x.tmod y) M) ρ M) ρ M
def iNeg (a : IE) : IE := fun K ρ M => a (fun x M => inR (-x) ∧ K (-x) M) ρ M
def iCh (a : IE) : IE := fun K ρ M => a (fun x M => K (x % 65536) M) ρ M
def iAnd31 (a : IE) : IE := fun K ρ M => a (fun x M => K (x % 32) M) ρ M
def iQ (c : CE) (a b : IE) : IE := fun K ρ M => c (fun M => a K ρ M) (fun M => b K ρ M) ρ M
def iMax (a b : IE) : IE := fun K ρ M => a (fun x M => b (fun y M => K (if x < y then y else x) M) ρ M) ρ M
def iMin (a b : IE) : IE := fun K ρ M => a (fun x M => b (fun y M => K (if y < x then y else x) M) ρ M) ρ M
def iAbs (a : IE) : IE := fun K ρ M => a (fun x M => inR (if 0 ≤ x then x else 0 - x) ∧ K (if 0 ≤ x then x else 0 - x) M) ρ M
def iCallS (Me : Mt) (a : AE) : IE := fun K ρ M => a (fun l M => Me l K M) ρ M
def iCallV (ci : Nat) (Me : Mt) (r : RE) (a : AE) : IE := fun K ρ M => r (fun o M => a (fun l M => match o with
  | some q => (∃ w, M.1[q]? = some (ci, w)) ∧ Me (.inr (some q) :: l) K M
  | none => False) ρ M) ρ M
def aN : AE := fun K _ M => K [] M
def aI (e : IE) (a : AE) : AE := fun K ρ M => e (fun x M => a (fun l M => K (.inl x :: l) M) ρ M) ρ M
def aR (e : RE) (a : AE) : AE := fun K ρ M => e (fun x M => a (fun l M => K (.inr x :: l) M) ρ M) ρ M
def rL (i : Nat) : RE := fun K ρ M => match ρ i with
  | .inr (some q) => K (some q) M
  | _ => False
def rF (ci j : Nat) (r : RE) : RE := fun K ρ M => r (fun o M => match o with
  | some q => (∃ w, M.1[q]? = some (ci, w)) ∧ K (M.2.2 q j) M
  | none => False) ρ M
def rA (r : RE) (i : IE) : RE := fun K ρ M => r (fun o M => i (fun x M => match o with
  | some q => ∃ n : Nat, M.1[q]? = some (22, n) ∧ 0 ≤ x ∧ x < (n : Int) ∧ K (M.2.2 q x.toNat) M
  | none => False) ρ M) ρ M
def capOK (ρ : En) (M : Mm) (w : Nat × Nat) : Prop := M.1.length + 1 ≤ limC ρ ∧ ssum M.1 + ssz w ≤ limS ρ ∧ M.1.length + 1 ≤ 1000000
def rNew (ci : Nat) (mc ms : Nat) (Me : Mt) (a : AE) : RE := fun K ρ M => capOK ρ M (ci, 0) ∧ a (fun l M1 => (M1.1.length + mc ≤ limC ρ ∧ ssum M1.1 + ms ≤ limS ρ) ∧ Me (.inr (some M.1.length) :: l) (fun _ M2 => K (some M.1.length) M2) M1) ρ (pu M (ci, 0))
def rNewI (e : IE) : RE := fun K ρ M => e (fun z M => ∃ n : Nat, z = n ∧ n ≤ 100000000 ∧ capOK ρ M (20, n) ∧ K (some M.1.length) (pu M (20, n))) ρ M
def rNewC (e : IE) : RE := fun K ρ M => e (fun z M => ∃ n : Nat, z = n ∧ n ≤ 100000000 ∧ capOK ρ M (21, n) ∧ K (some M.1.length) (pu M (21, n))) ρ M
def rNewR (e : IE) : RE := fun K ρ M => e (fun z M => ∃ n : Nat, z = n ∧ n ≤ 100000000 ∧ capOK ρ M (22, n) ∧ K (some M.1.length) (pu M (22, n))) ρ M
/-! ===== conditions ===== -/
def cEq (a b : IE) : CE := fun KT KF ρ M => a (fun x M => b (fun y M => if x = y then KT M else KF M) ρ M) ρ M
def cNe (a b : IE) : CE := fun KT KF ρ M => a (fun x M => b (fun y M => if x ≠ y then KT M else KF M) ρ M) ρ M
def cLt (a b : IE) : CE := fun KT KF ρ M => a (fun x M => b (fun y M => if x < y then KT M else KF M) ρ M) ρ M
def cGe (a b : IE) : CE := fun KT KF ρ M => a (fun x M => b (fun y M => if y ≤ x then KT M else KF M) ρ M) ρ M
def cGt (a b : IE) : CE := fun KT KF ρ M => a (fun x M => b (fun y M => if y < x then KT M else KF M) ρ M) ρ M
def cLe (a b : IE) : CE := fun KT KF ρ M => a (fun x M => b (fun y M => if x ≤ y then KT M else KF M) ρ M) ρ M
def cAnd (a b : CE) : CE := fun KT KF ρ M => a (fun M => b KT KF ρ M) KF ρ M
def cOr (a b : CE) : CE := fun KT KF ρ M => a KT (fun M => b KT KF ρ M) ρ M
def cNot (a : CE) : CE := fun KT KF ρ M => a KF KT ρ M
def cNull (r : RE) : CE := fun KT KF ρ M => r (fun o M => match o with
  | none => KT M
  | some _ => KF M) ρ M
/-! ===== statements ===== -/
def sSkip : ST := fun K _ ρ M => K ρ M
def sSeq (a b : ST) : ST := fun K Rt ρ M => a (fun ρ M => b K Rt ρ M) Rt ρ M
def sLoc (i : Nat) (e : IE) : ST := fun K _ ρ M => e (fun x M => K (va_up ρ i (.inl x)) M) ρ M
def sLocR (i : Nat) (e : RE) : ST := fun K _ ρ M => e (fun o M => match o with
  | some q => K (va_up ρ i (.inr (some q))) M
  | none => False) ρ M
def sInc (i : Nat) (n : Int) : ST := fun K _ ρ M => match ρ i with
  | .inl z => inR (z + n) ∧ K (va_up ρ i (.inl (z + n))) M
  | _ => False
def sPut (bo : Bool) (ci j : Nat) (r : RE) (e : IE) : ST := fun K _ ρ M => r (fun o M => e (fun x M => match o with
  | some q => (∃ w, M.1[q]? = some (ci, w)) ∧ (bo = true → x = 0 ∨ x = 1) ∧ K ρ (si M q j x)
  | none => False) ρ M) ρ M
def sPutR (ci j : Nat) (r r2 : RE) : ST := fun K _ ρ M => r (fun o M => r2 (fun o2 M => match o with
  | some q => match o2 with
    | some v => (∃ w, M.1[q]? = some (ci, w)) ∧ v < M.1.length ∧ K ρ (sr M q j (some v))
    | none => False
  | none => False) ρ M) ρ M
def sPutAdd (ci j : Nat) (r : RE) (e : IE) : ST := fun K _ ρ M => r (fun o M => match o with
  | some q => (∃ w, M.1[q]? = some (ci, w)) ∧ e (fun x M2 => (∃ w, M2.1[q]? = some (ci, w)) ∧ inR (M.2.1 q j + x) ∧ K ρ (si M2 q j (M.2.1 q j + x))) ρ M
  | none => False) ρ M
def sPutSub (ci j : Nat) (r : RE) (e : IE) : ST := fun K _ ρ M => r (fun o M => match o with
  | some q => (∃ w, M.1[q]? = some (ci, w)) ∧ e (fun x M2 => (∃ w, M2.1[q]? = some (ci, w)) ∧ inR (M.2.1 q j - x) ∧ K ρ (si M2 q j (M.2.1 q j - x))) ρ M
  | none => False) ρ M
def sAst (r : RE) (i e : IE) : ST := fun K _ ρ M => r (fun o M => i (fun x M => e (fun z M => match o with
  | some q => ∃ n : Nat, M.1[q]? = some (20, n) ∧ 0 ≤ x ∧ x < (n : Int) ∧ K ρ (si M q x.toNat z)
  | none => False) ρ M) ρ M) ρ M
def sCst (r : RE) (i e : IE) : ST := fun K _ ρ M => r (fun o M => i (fun x M => e (fun z M => match o with
  | some q => ∃ n : Nat, M.1[q]? = some (21, n) ∧ 0 ≤ x ∧ x < (n : Int) ∧ 0 ≤ z ∧ z < 65536 ∧ K ρ (si M q x.toNat z)
  | none => False) ρ M) ρ M) ρ M
def sRst (r : RE) (i : IE) (e : RE) : ST := fun K _ ρ M => r (fun o M => i (fun x M => e (fun v M => match o with
  | some q => match v with
    | some u => ∃ n w : Nat, M.1[q]? = some (22, n) ∧ M.1[u]? = some (4, w) ∧ 0 ≤ x ∧ x < (n : Int) ∧ K ρ (sr M q x.toNat (some u))
    | none => False
  | none => False) ρ M) ρ M) ρ M
def sAstAdd (r : RE) (i e : IE) : ST := fun K _ ρ M => r (fun o M => i (fun x M => match o with
  | some q => ∃ n : Nat, M.1[q]? = some (20, n) ∧ 0 ≤ x ∧ x < (n : Int) ∧ e (fun z M2 => ∃ n2 : Nat, M2.1[q]? = some (20, n2) ∧ x < (n2 : Int) ∧ inR (M.2.1 q x.toNat + z) ∧ K ρ (si M2 q x.toNat (M.2.1 q x.toNat + z))) ρ M
  | none => False) ρ M) ρ M
def sAstSub (r : RE) (i e : IE) : ST := fun K _ ρ M => r (fun o M => i (fun x M => match o with
  | some q => ∃ n : Nat, M.1[q]? = some (20, n) ∧ 0 ≤ x ∧ x < (n : Int) ∧ e (fun z M2 => ∃ n2 : Nat, M2.1[q]? = some (20, n2) ∧ x < (n2 : Int) ∧ inR (M.2.1 q x.toNat - z) ∧ K ρ (si M2 q x.toNat (M.2.1 q x.toNat - z))) ρ M
  | none => False) ρ M) ρ M
def sIf1 (c : CE) (a : ST) : ST := fun K Rt ρ M => c (fun M => a K Rt ρ M) (fun M => K ρ M) ρ M
def sIf (c : CE) (a b : ST) : ST := fun K Rt ρ M => c (fun M => a K Rt ρ M) (fun M => b K Rt ρ M) ρ M
def wit (c : CE) (b : ST) (K : En → Mm → Prop) (Rt : Int → Mm → Prop) : Nat → En → Mm → Prop
  | 0, _, _ => False
  | n + 1, ρ, M => c (fun M => b (wit c b K Rt n) Rt ρ M) (fun M => K ρ M) ρ M
def sWhile (c : CE) (b : ST) : ST := fun K Rt ρ M => ∃ n, wit c b K Rt n ρ M
def sRet (bo : Bool) (e : IE) : ST := fun _ Rt ρ M => e (fun x M => (bo = true → x = 0 ∨ x = 1) ∧ Rt x M) ρ M
def sRetV : ST := fun _ Rt _ M => Rt 0 M
def sCallV (ci : Nat) (Me : Mt) (r : RE) (a : AE) : ST := fun K _ ρ M => r (fun o M => a (fun l M => match o with
  | some q => (∃ w, M.1[q]? = some (ci, w)) ∧ Me (.inr (some q) :: l) (fun _ M2 => K ρ M2) M
  | none => False) ρ M) ρ M
def sCallS (Me : Mt) (a : AE) : ST := fun K _ ρ M => a (fun l M => Me l (fun _ M2 => K ρ M2) M) ρ M
def sPop (e : IE) : ST := fun K _ ρ M => e (fun _ M2 => K ρ M2) ρ M
def sCopy (a b : RE) (i j n : IE) : ST := fun K _ ρ M => a (fun o M => i (fun sp M => b (fun o2 M => j (fun dp M => n (fun k M => match o with
  | some q0 => match o2 with
    | some q1 => ∃ n0 n1 : Nat, M.1[q0]? = some (20, n0) ∧ M.1[q1]? = some (20, n1) ∧ 0 ≤ sp ∧ 0 ≤ dp ∧ 0 ≤ k ∧ sp + k ≤ (n0 : Int) ∧ dp + k ≤ (n1 : Int) ∧ K ρ (cpy M q0 q1 sp.toNat dp.toNat k.toNat)
    | none => False
  | none => False) ρ M) ρ M) ρ M) ρ M) ρ M
def sCopyT (xs : Nat → Int) (t : Nat) (b : RE) (i j n : IE) : ST := fun K _ ρ M => i (fun sp M => b (fun o2 M => j (fun dp M => n (fun k M => match o2 with
    | some q1 => ∃ n1 : Nat, M.1[q1]? = some (20, n1) ∧ 0 ≤ sp ∧ 0 ≤ dp ∧ 0 ≤ k ∧ sp + k ≤ 5 ∧ dp + k ≤ (n1 : Int) ∧ K ρ (cpyT (tVl xs t) M q1 sp.toNat dp.toNat k.toNat)
    | none => False) ρ M) ρ M) ρ M) ρ M
def sObj (r : RE) : ST := fun K _ ρ M => r (fun o M => match o with
  | some _ => K ρ M
  | none => False) ρ M
def sSw (e : IE) (lo : Int) (fs : List ST) (dflt : ST) : ST := fun K Rt ρ M => e (fun x M => if lo ≤ x ∧ x < lo + fs.length then (fs.getD (x - lo).toNat dflt) K Rt ρ M else dflt K Rt ρ M) ρ M
/-! ===== methods ===== -/
def ent (av : List Vv) (lc ls : Int) : En := fun i => match av[i]? with
  | some v => v
  | none => if i = 1000 then .inl lc else if i = 1001 then .inl ls else .inr none
def mkM (n : Nat) (al : List (Nat × Nat)) (S : ST) : Mt := fun av Rt M => av.length = n ∧ S (fun _ _ => False) (fun r M2 => M2.1 = M.1 ++ al ∧ Rt r M2) (ent av ((M.1.length + al.length : Nat) : Int) ((ssum M.1 + ssum al : Nat) : Int)) M
/-- of a method that makes nothing -/
def mk0 (n : Nat) (S : ST) : Mt := fun av Rt M => av.length = n ∧ S (fun _ _ => False) (fun r M2 => M2.1 = M.1 ∧ Rt r M2) (ent av 0 0) M
/-! ===== where they stand in the code ===== -/
def IAt (G : Gt) (pc pe d : Nat) (E : IE) : Prop := ∀ (K : Int → Mm → Prop) (ρ : En) (M : Mm) (sv : List Vv), sv.length ≤ d → E K ρ M → (∀ x M2, K x M2 → G pe (.inl x :: sv) ρ M2) → G pc sv ρ M
def RAt (G : Gt) (pc pe d : Nat) (E : RE) : Prop := ∀ (K : Option Nat → Mm → Prop) (ρ : En) (M : Mm) (sv : List Vv), sv.length ≤ d → E K ρ M → (∀ x M2, K x M2 → G pe (.inr x :: sv) ρ M2) → G pc sv ρ M
def CAt (G : Gt) (pc pt pf d : Nat) (C : CE) : Prop := ∀ (KT KF : Mm → Prop) (ρ : En) (M : Mm) (sv : List Vv), sv.length ≤ d → C KT KF ρ M → (∀ M2, KT M2 → G pt sv ρ M2) → (∀ M2, KF M2 → G pf sv ρ M2) → G pc sv ρ M
def AAt (G : Gt) (pc pe d n : Nat) (E : AE) : Prop := ∀ (K : List Vv → Mm → Prop) (ρ : En) (M : Mm) (sv : List Vv), sv.length ≤ d → E K ρ M → (∀ l M2, l.length = n → K l M2 → G pe (l.reverse ++ sv) ρ M2) → G pc sv ρ M
def SAt (G : Gt) (Rt : Int → Mm → Prop) (pc pe : Nat) (S : ST) : Prop := ∀ (K : En → Mm → Prop) (ρ : En) (M : Mm), S K Rt ρ M → (∀ ρ2 M2, K ρ2 M2 → G pe [] ρ2 M2) → G pc [] ρ M
section AT
variable {own : String} {cc : ByteArray} {nL : Nat} {mn : String} {R : Room} {ret : Option FieldType} {nt L : Nat} {xs : Nat → Int} {Rt : Int → Mm → Prop} {G : Gt} {pc pd d : Nat} {p1 p2 p3 p4 p5 : Nat}
theorem I_iconst (hG : Mach own cc nL mn R ret nt L xs Rt G) {n z : Int} (hd : decode cc pc = .ok (.iconst n, 1)) (hv : Int32.ofInt n = zI z) (hz : inR z) : IAt G pc (pc + 1) d (iC z) := fun K ρ M sv _ h k => G_iconst hG hd hv hz (k z M h)
theorem I_bipush (hG : Mach own cc nL mn R ret nt L xs Rt G) {n z : Int} (hd : decode cc pc = .ok (.bipush n, 2)) (hv : (Int8.ofInt n).toInt32 = zI z) (hz : inR z) : IAt G pc (pc + 2) d (iC z) := fun K ρ M sv _ h k => G_bipush hG hd hv hz (k z M h)
theorem I_sipush (hG : Mach own cc nL mn R ret nt L xs Rt G) {n z : Int} (hd : decode cc pc = .ok (.sipush n, 3)) (hv : (Int16.ofInt n).toInt32 = zI z) (hz : inR z) : IAt G pc (pc + 3) d (iC z) := fun K ρ M sv _ h k => G_sipush hG hd hv hz (k z M h)
theorem I_iload (hG : Mach own cc nL mn R ret nt L xs Rt G) {i : Nat} (hd : decode cc pc = .ok (.iload i, 2)) (hi : i < nL) : IAt G pc (pc + 2) d (iL i) := by
  intro K ρ M sv _ h k
  unfold iL at h
  split at h
  · rename_i z e
    exact G_iload hG (ins := .nop) (ln := 0) hd hi e (k z M h)
  · exact h.elim
theorem I_iload_n (hG : Mach own cc nL mn R ret nt L xs Rt G) {j : Fin 4} {i : Nat} (hd : decode cc pc = .ok (.iload_n j, 1)) (hj : (j : Nat) = i) (hi : i < nL) : IAt G pc (pc + 1) d (iL i) := by
  intro K ρ M sv _ h k
  unfold iL at h
  split at h
  · rename_i z e
    exact G_iload_n hG hd hj hi e (k z M h)
  · exact h.elim
theorem R_aload (hG : Mach own cc nL mn R ret nt L xs Rt G) {i : Nat} (hd : decode cc pc = .ok (.aload i, 2)) (hi : i < nL) : RAt G pc (pc + 2) d (rL i) := by
  intro K ρ M sv _ h k
  unfold rL at h
  split at h
  · rename_i z e
    exact G_aload hG hd hi e (k (some z) M h)
  · exact h.elim
theorem R_aload_n (hG : Mach own cc nL mn R ret nt L xs Rt G) {j : Fin 4} {i : Nat} (hd : decode cc pc = .ok (.aload_n j, 1)) (hj : (j : Nat) = i) (hi : i < nL) : RAt G pc (pc + 1) d (rL i) := by
  intro K ρ M sv _ h k
  unfold rL at h
  split at h
  · rename_i z e
    exact G_aload_n hG hd hj hi e (k (some z) M h)
  · exact h.elim
theorem I_getf (hG : Mach own cc nL mn R ret nt L xs Rt G) {idx ci j : Nat} {r : RE} (F : Fok own idx ci j false) (hr : RAt G pc p1 d r) (hd : decode cc p1 = .ok (.getfield idx, 3)) : IAt G pc (p1 + 3) d (iF ci j r) := by
  intro K ρ M sv hs h k
  refine hr _ ρ M sv hs h (fun o M2 h2 => ?_)
  cases o with
  | none => exact h2.elim
  | some q =>
    obtain ⟨⟨w, hw⟩, h3⟩ := h2
    exact G_getI hG F hw hd (k _ _ h3)
theorem R_getf (hG : Mach own cc nL mn R ret nt L xs Rt G) {idx ci j : Nat} {r : RE} (F : Fok own idx ci j true) (hr : RAt G pc p1 d r) (hd : decode cc p1 = .ok (.getfield idx, 3)) : RAt G pc (p1 + 3) d (rF ci j r) := by
  intro K ρ M sv hs h k
  refine hr _ ρ M sv hs h (fun o M2 h2 => ?_)
  cases o with
  | none => exact h2.elim
  | some q =>
    obtain ⟨⟨w, hw⟩, h3⟩ := h2
    exact G_getR hG F hw hd (k _ _ h3)
theorem I_iald (hG : Mach own cc nL mn R ret nt L xs Rt G) {r : RE} {i : IE} (hr : RAt G pc p1 d r) (hi : IAt G p1 p2 (d + 1) i) (hd : decode cc p2 = .ok (.iaload, 1)) : IAt G pc (p2 + 1) d (iA r i) := by
  intro K ρ M sv hs h k
  refine hr _ ρ M sv hs h (fun o M2 h2 => ?_)
  refine hi _ ρ M2 _ (by simp; omega) h2 (fun x M3 h3 => ?_)
  cases o with
  | none => exact h3.elim
  | some q =>
    obtain ⟨n, hw, h0, h1, h4⟩ := h3
    exact G_iald hG hw h0 h1 hd (k _ _ h4)
theorem I_cald (hG : Mach own cc nL mn R ret nt L xs Rt G) {r : RE} {i : IE} (hr : RAt G pc p1 d r) (hi : IAt G p1 p2 (d + 1) i) (hd : decode cc p2 = .ok (.caload, 1)) : IAt G pc (p2 + 1) d (iAc r i) := by
  intro K ρ M sv hs h k
  refine hr _ ρ M sv hs h (fun o M2 h2 => ?_)
  refine hi _ ρ M2 _ (by simp; omega) h2 (fun x M3 h3 => ?_)
  cases o with
  | none => exact h3.elim
  | some q =>
    obtain ⟨n, hw, h0, h1, h4⟩ := h3
    exact G_cald hG hw h0 h1 hd (k _ _ h4)
theorem R_aald (hG : Mach own cc nL mn R ret nt L xs Rt G) {r : RE} {i : IE} (hr : RAt G pc p1 d r) (hi : IAt G p1 p2 (d + 1) i) (hd : decode cc p2 = .ok (.aaload, 1)) : RAt G pc (p2 + 1) d (rA r i) := by
  intro K ρ M sv hs h k
  refine hr _ ρ M sv hs h (fun o M2 h2 => ?_)
  refine hi _ ρ M2 _ (by simp; omega) h2 (fun x M3 h3 => ?_)
  cases o with
  | none => exact h3.elim
  | some q =>
    obtain ⟨n, hw, h0, h1, h4⟩ := h3
    exact G_aald hG hw h0 h1 hd (k _ _ h4)
theorem I_alen (hG : Mach own cc nL mn R ret nt L xs Rt G) {r : RE} (hr : RAt G pc p1 d r) (hd : decode cc p1 = .ok (.arraylength, 1)) : IAt G pc (p1 + 1) d (iLen r) := by
  intro K ρ M sv hs h k
  refine hr _ ρ M sv hs h (fun o M2 h2 => ?_)
  cases o with
  | none => exact h2.elim
  | some q =>
    obtain ⟨n, hw, hn, h3⟩ := h2
    exact G_alen hG hw hn hd (k _ _ h3)
theorem I_tabS (hG : Mach own cc nL mn R ret nt L xs Rt G) {t idx : Nat} {i : IE} (ht : t < 3) (hnt : t < nt) (hlk : Cond.fieldLink own idx "SungSlides" (stN t) "[I" ∈ gtb) (hd0 : decode cc pc = .ok (.getstatic idx, 3)) (hi : IAt G (pc + 3) p2 (d + 1) i) (hd : decode cc p2 = .ok (.iaload, 1)) : IAt G pc (p2 + 1) d (iT L xs t i) := by
  intro K ρ M sv hs h k
  refine G_gets hG ht hlk hd0 ?_
  refine hi _ ρ M _ (by simp; omega) h (fun x M3 h3 => ?_)
  obtain ⟨h0, h1, h4⟩ := h3
  exact G_tld hG hnt h0 h1 hd (k _ _ h4)
theorem I_iadd (hG : Mach own cc nL mn R ret nt L xs Rt G) {a b : IE} (ha : IAt G pc p1 d a) (hb : IAt G p1 p2 (d + 1) b) (hd : decode cc p2 = .ok (.iadd, 1)) : IAt G pc (p2 + 1) d (iAdd a b) := by
  intro K ρ M sv hs h k
  refine ha _ ρ M sv hs h (fun x M2 h2 => ?_)
  refine hb _ ρ M2 _ (by simp; omega) h2 (fun y M3 h3 => ?_)
  obtain ⟨hz, h4⟩ := h3
  exact G_iadd hG hd hz (k _ _ h4)
theorem I_isub (hG : Mach own cc nL mn R ret nt L xs Rt G) {a b : IE} (ha : IAt G pc p1 d a) (hb : IAt G p1 p2 (d + 1) b) (hd : decode cc p2 = .ok (.isub, 1)) : IAt G pc (p2 + 1) d (iSub a b) := by
  intro K ρ M sv hs h k
  refine ha _ ρ M sv hs h (fun x M2 h2 => ?_)
  refine hb _ ρ M2 _ (by simp; omega) h2 (fun y M3 h3 => ?_)
  obtain ⟨hz, h4⟩ := h3
  exact G_isub hG hd hz (k _ _ h4)
theorem I_imul (hG : Mach own cc nL mn R ret nt L xs Rt G) {a b : IE} (ha : IAt G pc p1 d a) (hb : IAt G p1 p2 (d + 1) b) (hd : decode cc p2 = .ok (.imul, 1)) : IAt G pc (p2 + 1) d (iMul a b) := by
  intro K ρ M sv hs h k
  refine ha _ ρ M sv hs h (fun x M2 h2 => ?_)
  refine hb _ ρ M2 _ (by simp; omega) h2 (fun y M3 h3 => ?_)
  obtain ⟨hz, h4⟩ := h3
  exact G_imul hG hd hz (k _ _ h4)
theorem I_idiv (hG : Mach own cc nL mn R ret nt L xs Rt G) {a b : IE} (ha : IAt G pc p1 d a) (hb : IAt G p1 p2 (d + 1) b) (hd : decode cc p2 = .ok (.idiv, 1)) : IAt G pc (p2 + 1) d (iDiv a b) := by
  intro K ρ M sv hs h k
  refine ha _ ρ M sv hs h (fun x M2 h2 => ?_)
  refine hb _ ρ M2 _ (by simp; omega) h2 (fun y M3 h3 => ?_)
  obtain ⟨h0, hz, h4⟩ := h3
  exact G_idiv hG hd h0 hz (k _ _ h4)
theorem I_irem (hG : Mach own cc nL mn R ret nt L xs Rt G) {a b : IE} (ha : IAt G pc p1 d a) (hb : IAt G p1 p2 (d + 1) b) (hd : decode cc p2 = .ok (.irem, 1)) : IAt G pc (p2 + 1) d (iRem a b) := by
  intro K ρ M sv hs h k
  refine ha _ ρ M sv hs h (fun x M2 h2 => ?_)
  refine hb _ ρ M2 _ (by simp; omega) h2 (fun y M3 h3 => ?_)
  obtain ⟨h0, hz, h4⟩ := h3
  exact G_irem hG hd h0 hz (k _ _ h4)
theorem I_ineg (hG : Mach own cc nL mn R ret nt L xs Rt G) {a : IE} (ha : IAt G pc p1 d a) (hd : decode cc p1 = .ok (.ineg, 1)) : IAt G pc (p1 + 1) d (iNeg a) := fun K ρ M sv hs h k => ha _ ρ M sv hs h (fun x M2 h2 => G_ineg hG hd h2.1 (k _ _ h2.2))
theorem I_i2c (hG : Mach own cc nL mn R ret nt L xs Rt G) {a : IE} (ha : IAt G pc p1 d a) (hd : decode cc p1 = .ok (.i2c, 1)) : IAt G pc (p1 + 1) d (iCh a) := fun K ρ M sv hs h k => ha _ ρ M sv hs h (fun x M2 h2 => G_i2c hG hd (k _ _ h2))
theorem I_and31 (hG : Mach own cc nL mn R ret nt L xs Rt G) {a : IE} {n : Int} (ha : IAt G pc p1 d a) (hd0 : decode cc p1 = .ok (.bipush n, 2)) (hv : (Int8.ofInt n).toInt32 = zI 31) (hd : decode cc (p1 + 2) = .ok (.iand, 1)) : IAt G pc (p1 + 2 + 1) d (iAnd31 a) := fun K ρ M sv hs h k => ha _ ρ M sv hs h (fun x M2 h2 => G_bipush hG hd0 hv ⟨by decide, by decide⟩ (G_iand hG hd (k _ _ h2)))
theorem I_tern (hG : Mach own cc nL mn R ret nt L xs Rt G) {c : CE} {a b : IE} {off : Int} (hc : CAt G pc p1 p3 d c) (ha : IAt G p1 p2 d a) (hd : decode cc p2 = .ok (.goto off, 3)) (ht : (p2 : Int) + off = (p4 : Int)) (hb : IAt G p3 p4 d b) : IAt G pc p4 d (iQ c a b) := by
  intro K ρ M sv hs h k
  refine hc _ _ ρ M sv hs h (fun M2 h2 => ?_) (fun M2 h2 => ?_)
  · exact ha _ ρ M2 sv hs h2 (fun x M3 h3 => G_goto hG hd ht (k _ _ h3))
  · exact hb _ ρ M2 sv hs h2 k
theorem I_goto (hG : Mach own cc nL mn R ret nt L xs Rt G) {a : IE} {off : Int} (ha : IAt G pc p1 d a) (hd : decode cc p1 = .ok (.goto off, 3)) (ht : (p1 : Int) + off = (p2 : Int)) : IAt G pc p2 d a := fun K ρ M sv hs h k => ha _ ρ M sv hs h (fun x M2 h2 => G_goto hG hd ht (k _ _ h2))
theorem I_ternX (hG : Mach own cc nL mn R ret nt L xs Rt G) {c : CE} {a b : IE} (hc : CAt G pc p1 p3 d c) (ha : IAt G p1 p4 d a) (hb : IAt G p3 p4 d b) : IAt G pc p4 d (iQ c a b) := fun K ρ M sv hs h k => hc _ _ ρ M sv hs h (fun M2 h2 => ha _ ρ M2 sv hs h2 k) (fun M2 h2 => hb _ ρ M2 sv hs h2 k)
theorem I_mmax (hG : Mach own cc nL mn R ret nt L xs Rt G) {a b : IE} {idx : Nat} (ha : IAt G pc p1 d a) (hb : IAt G p1 p2 (d + 1) b) (hk : ∀ w ∈ ([.methodLink own idx Lib.Math.max.name, .static Lib.Math.max.name, .initialized "java/lang/Math", .code Lib.Math.max.name Lib.Math.max.code 2 (some .int)] : List Cond), w ∈ gtb) (hR : 1 ≤ R.frames ∧ d + 13 ≤ R.locals) (hd : decode cc p2 = .ok (.invokestatic idx, 3)) : IAt G pc (p2 + 3) d (iMax a b) := by
  intro K ρ M sv hs h k
  refine ha _ ρ M sv hs h (fun x M2 h2 => ?_)
  refine hb _ ρ M2 _ (by simp; omega) h2 (fun y M3 h3 => ?_)
  exact G_mmax hG hk ⟨hR.1, by omega⟩ hd (k _ _ h3)
theorem I_mmin (hG : Mach own cc nL mn R ret nt L xs Rt G) {a b : IE} {idx : Nat} (ha : IAt G pc p1 d a) (hb : IAt G p1 p2 (d + 1) b) (hk : ∀ w ∈ ([.methodLink own idx Lib.Math.min.name, .static Lib.Math.min.name, .initialized "java/lang/Math", .code Lib.Math.min.name Lib.Math.min.code 2 (some .int)] : List Cond), w ∈ gtb) (hR : 1 ≤ R.frames ∧ d + 13 ≤ R.locals) (hd : decode cc p2 = .ok (.invokestatic idx, 3)) : IAt G pc (p2 + 3) d (iMin a b) := by
  intro K ρ M sv hs h k
  refine ha _ ρ M sv hs h (fun x M2 h2 => ?_)
  refine hb _ ρ M2 _ (by simp; omega) h2 (fun y M3 h3 => ?_)
  exact G_mmin hG hk ⟨hR.1, by omega⟩ hd (k _ _ h3)
theorem I_mabs (hG : Mach own cc nL mn R ret nt L xs Rt G) {a : IE} {idx : Nat} (ha : IAt G pc p1 d a) (hk : ∀ w ∈ ([.methodLink own idx Lib.Math.abs.name, .static Lib.Math.abs.name, .initialized "java/lang/Math", .code Lib.Math.abs.name Lib.Math.abs.code 1 (some .int)] : List Cond), w ∈ gtb) (hR : 1 ≤ R.frames ∧ d + 13 ≤ R.locals) (hd : decode cc p1 = .ok (.invokestatic idx, 3)) : IAt G pc (p1 + 3) d (iAbs a) := by
  intro K ρ M sv hs h k
  refine ha _ ρ M sv hs h (fun x M2 h2 => ?_)
  exact G_mabs hG hk ⟨hR.1, by omega⟩ h2.1 hd (k _ _ h2.2)
theorem A_nil (hG : Mach own cc nL mn R ret nt L xs Rt G)  : AAt G pc pc d 0 aN := fun K ρ M sv _ h k => k [] M rfl h
theorem A_int (hG : Mach own cc nL mn R ret nt L xs Rt G) {n : Nat} {e : IE} {a : AE} (he : IAt G pc p1 d e) (ha : AAt G p1 p2 (d + 1) n a) : AAt G pc p2 d (n + 1) (aI e a) := by
  intro K ρ M sv hs h k
  refine he _ ρ M sv hs h (fun x M2 h2 => ?_)
  refine ha _ ρ M2 _ (by simp; omega) h2 (fun l M3 hl h3 => ?_)
  have := k (.inl x :: l) M3 (by simp [hl]) h3
  simpa using this
theorem A_ref (hG : Mach own cc nL mn R ret nt L xs Rt G) {n : Nat} {e : RE} {a : AE} (he : RAt G pc p1 d e) (ha : AAt G p1 p2 (d + 1) n a) : AAt G pc p2 d (n + 1) (aR e a) := by
  intro K ρ M sv hs h k
  refine he _ ρ M sv hs h (fun x M2 h2 => ?_)
  refine ha _ ρ M2 _ (by simp; omega) h2 (fun l M3 hl h3 => ?_)
  have := k (.inr x :: l) M3 (by simp [hl]) h3
  simpa using this
theorem I_callV (hG : Mach own cc nL mn R ret nt L xs Rt G) {idx n maxL : Nat} {y : MethodName} {cy : ByteArray} {rm : Room} {Me : Mt} {rt : FieldType} {ci N : Nat} {TT : u_T} {r : RE} {a : AE} (hM : MOkI y cy maxL rt rm Me) (hk : CkV own idx y cy maxL (some rt) n) (h0 : rm.cells = 0 ∧ rm.slots = 0) (hci : ci < 8) (hcl : vwCl[ci]? = some (y.cls, TT, N)) (hR : Rok rm R maxL) (hd8 : d ≤ 8) (hr : RAt G pc p1 d r) (ha : AAt G p1 p2 (d + 1) n a) (hd : decode cc p2 = .ok (.invokevirtual idx, 3)) : IAt G pc (p2 + 3) d (iCallV ci Me r a) := by
  intro K ρ M sv hs h k
  refine hr _ ρ M sv hs h (fun o M2 h2 => ?_)
  refine ha _ ρ M2 _ (by simp; omega) h2 (fun l M3 hl h3 => ?_)
  cases o with
  | none => exact h3.elim
  | some q =>
    obtain ⟨⟨w, hw⟩, h4⟩ := h3
    rw [show l.reverse ++ (Sum.inr (some q) :: sv) = (Sum.inr (some q) :: l).reverse ++ sv by simp]
    exact G_callVI hG hM hR (by simp [hl]) (by omega) hd hk h0 hci hcl rfl hw h4 k
theorem I_callS (hG : Mach own cc nL mn R ret nt L xs Rt G) {idx n maxL : Nat} {y : MethodName} {cy : ByteArray} {rm : Room} {Me : Mt} {rt : FieldType} {a : AE} (hM : MOkI y cy maxL rt rm Me) (hk : CkS own idx y cy maxL (some rt) n) (h0 : rm.cells = 0 ∧ rm.slots = 0) (hR : Rok rm R maxL) (hd8 : d ≤ 8) (ha : AAt G pc p2 d n a) (hd : decode cc p2 = .ok (.invokestatic idx, 3)) : IAt G pc (p2 + 3) d (iCallS Me a) := fun K ρ M sv hs h k => ha _ ρ M sv hs h (fun l M3 hl h3 => G_callSI hG hM hR hl (by omega) hd hk h0 h3 k)
theorem I_callN (hG : Mach own cc nL mn R ret nt L xs Rt G) {idx n maxL : Nat} {y : MethodName} {cy : ByteArray} {rm : Room} {Me : Mt} {rt : FieldType} {host : String} {a : AE} (hM : MOkI y cy maxL rt rm Me) (hk : CkN own idx host y cy maxL (some rt) n) (h0 : rm.cells = 0 ∧ rm.slots = 0) (hR : Rok rm R maxL) (hd8 : d ≤ 8) (ha : AAt G pc p2 d n a) (hd : decode cc p2 = .ok (.invokestatic idx, 3)) : IAt G pc (p2 + 3) d (iCallS Me a) := fun K ρ M sv hs h k => ha _ ρ M sv hs h (fun l M3 hl h3 => G_callNI hG hM hR hl (by omega) hd hk h0 h3 k)
theorem S_callV (hG : Mach own cc nL mn R ret nt L xs Rt G) {idx n maxL : Nat} {y : MethodName} {cy : ByteArray} {rm : Room} {Me : Mt} {ci N : Nat} {TT : u_T} {r : RE} {a : AE} (hM : MOkV y cy maxL rm Me) (hk : CkV own idx y cy maxL none n) (h0 : rm.cells = 0 ∧ rm.slots = 0) (hci : ci < 8) (hcl : vwCl[ci]? = some (y.cls, TT, N)) (hR : Rok rm R maxL) (hr : RAt G pc p1 0 r) (ha : AAt G p1 p2 1 n a) (hd : decode cc p2 = .ok (.invokevirtual idx, 3)) : SAt G Rt pc (p2 + 3) (sCallV ci Me r a) := by
  intro K ρ M h k
  refine hr _ ρ M [] (Nat.zero_le _) h (fun o M2 h2 => ?_)
  refine ha _ ρ M2 _ (by simp) h2 (fun l M3 hl h3 => ?_)
  cases o with
  | none => exact h3.elim
  | some q =>
    obtain ⟨⟨w, hw⟩, h4⟩ := h3
    rw [show l.reverse ++ (Sum.inr (some q) :: []) = (Sum.inr (some q) :: l).reverse ++ [] by simp]
    exact G_callVV hG hM hR (by simp [hl]) (by simp) hd hk h0 hci hcl rfl hw h4 (fun _ M4 h5 => k _ _ h5)
theorem S_callS (hG : Mach own cc nL mn R ret nt L xs Rt G) {idx n maxL : Nat} {y : MethodName} {cy : ByteArray} {rm : Room} {Me : Mt} {a : AE} (hM : MOkV y cy maxL rm Me) (hk : CkS own idx y cy maxL none n) (h0 : rm.cells = 0 ∧ rm.slots = 0) (hR : Rok rm R maxL) (ha : AAt G pc p2 0 n a) (hd : decode cc p2 = .ok (.invokestatic idx, 3)) : SAt G Rt pc (p2 + 3) (sCallS Me a) := by
  intro K ρ M h k
  refine ha _ ρ M [] (Nat.zero_le _) h (fun l M3 hl h3 => ?_)
  exact G_callSV hG hM hR hl (by simp) hd hk h0 h3 (fun _ M4 h5 => k _ _ h5)
theorem R_new (hG : Mach own cc nL mn R ret nt L xs Rt G) {idx n maxL : Nat} {y : MethodName} {cy : ByteArray} {rm : Room} {Me : Mt} {idx0 ci : Nat} {a : AE} (F : Nok own idx0 ci) (hci : ci < 8) (hM : MOkV y cy maxL rm Me) (hk : CkI own idx y cy maxL n) (hR : Rok rm R maxL) (hd8 : d ≤ 7) (hd0 : decode cc pc = .ok (.new idx0, 3)) (hd1 : decode cc (pc + 3) = .ok (.dup, 1)) (ha : AAt G (pc + 3 + 1) p2 (d + 2) n a) (hd : decode cc p2 = .ok (.invokespecial idx, 3)) : RAt G pc (p2 + 3) d (rNew ci rm.cells rm.slots Me a) := by
  intro K ρ M sv hs h k
  obtain ⟨⟨hc1, hc2, hc3⟩, h⟩ := h
  refine G_new hG F ⟨hc1, by rw [ssz, if_pos (show ci < 8 from hci)] at hc2; exact hc2⟩ hc3 hd0 ?_
  refine G_dup hG hd1 ?_
  refine ha _ ρ _ _ (by simp; omega) h (fun l M3 hl h3 => ?_)
  obtain ⟨hcap, h4⟩ := h3
  rw [show l.reverse ++ (Sum.inr (some M.1.length) :: Sum.inr (some M.1.length) :: sv) = (Sum.inr (some M.1.length) :: l).reverse ++ (Sum.inr (some M.1.length) :: sv) by simp]
  exact G_callI hG hM hR (by simp [hl]) (by simp; omega) hd hk hcap rfl h4 (fun _ M4 h5 => k _ _ h5)
theorem R_newN (hG : Mach own cc nL mn R ret nt L xs Rt G) {idx n maxL : Nat} {y : MethodName} {cy : ByteArray} {rm : Room} {Me : Mt} {host : String} {idx0 ci : Nat} {a : AE} (F : Nok own idx0 ci) (hci : ci < 8) (hM : MOkV y cy maxL rm Me) (hk : CkIN own idx host y cy maxL n) (hR : Rok rm R maxL) (hd8 : d ≤ 7) (hd0 : decode cc pc = .ok (.new idx0, 3)) (hd1 : decode cc (pc + 3) = .ok (.dup, 1)) (ha : AAt G (pc + 3 + 1) p2 (d + 2) n a) (hd : decode cc p2 = .ok (.invokespecial idx, 3)) : RAt G pc (p2 + 3) d (rNew ci rm.cells rm.slots Me a) := by
  intro K ρ M sv hs h k
  obtain ⟨⟨hc1, hc2, hc3⟩, h⟩ := h
  refine G_new hG F ⟨hc1, by rw [ssz, if_pos (show ci < 8 from hci)] at hc2; exact hc2⟩ hc3 hd0 ?_
  refine G_dup hG hd1 ?_
  refine ha _ ρ _ _ (by simp; omega) h (fun l M3 hl h3 => ?_)
  obtain ⟨hcap, h4⟩ := h3
  rw [show l.reverse ++ (Sum.inr (some M.1.length) :: Sum.inr (some M.1.length) :: sv) = (Sum.inr (some M.1.length) :: l).reverse ++ (Sum.inr (some M.1.length) :: sv) by simp]
  exact G_callIN hG hM hR (by simp [hl]) (by simp; omega) hd hk hcap rfl h4 (fun _ M4 h5 => k _ _ h5)
theorem R_newI (hG : Mach own cc nL mn R ret nt L xs Rt G) {e : IE} (hac : Cond.arrayClass .int ∈ gtb) (he : IAt G pc p1 d e) (hd : decode cc p1 = .ok (.newarray .int, 2)) : RAt G pc (p1 + 2) d (rNewI e) := by
  intro K ρ M sv hs h k
  refine he _ ρ M sv hs h (fun z M2 h2 => ?_)
  obtain ⟨n, hz, hn, ⟨hc1, hc2, hc3⟩, h3⟩ := h2
  exact G_newI hG hz hn hac ⟨hc1, hc2⟩ hc3 hd (k _ _ h3)
theorem R_newC (hG : Mach own cc nL mn R ret nt L xs Rt G) {e : IE} (hac : Cond.arrayClass .char ∈ gtb) (he : IAt G pc p1 d e) (hd : decode cc p1 = .ok (.newarray .char, 2)) : RAt G pc (p1 + 2) d (rNewC e) := by
  intro K ρ M sv hs h k
  refine he _ ρ M sv hs h (fun z M2 h2 => ?_)
  obtain ⟨n, hz, hn, ⟨hc1, hc2, hc3⟩, h3⟩ := h2
  exact G_newC hG hz hn hac ⟨hc1, hc2⟩ hc3 hd (k _ _ h3)
theorem R_newR (hG : Mach own cc nL mn R ret nt L xs Rt G) {e : IE} {idx : Nat} (hac : Cond.classLink own idx "SungSlides$State" ∈ gtb) (he : IAt G pc p1 d e) (hd : decode cc p1 = .ok (.anewarray idx, 3)) : RAt G pc (p1 + 3) d (rNewR e) := by
  intro K ρ M sv hs h k
  refine he _ ρ M sv hs h (fun z M2 h2 => ?_)
  obtain ⟨n, hz, hn, ⟨hc1, hc2, hc3⟩, h3⟩ := h2
  exact G_newR hG hz hn hac ⟨hc1, hc2⟩ hc3 hd (k _ _ h3)
theorem C_eq_T (hG : Mach own cc nL mn R ret nt L xs Rt G) {a b : IE} {off : Int} {tgt : Nat} (ha : IAt G pc p1 d a) (hb : IAt G p1 p2 (d + 1) b) (hd : decode cc p2 = .ok (.if_icmp .eq off, 3)) (ht : (p2 : Int) + off = (tgt : Int)) : CAt G pc tgt (p2 + 3) d (cEq a b) := by
  intro KT KF ρ M sv hs h kT kF
  refine ha _ ρ M sv hs h (fun x M2 h2 => ?_)
  refine hb _ ρ M2 _ (by simp; omega) h2 (fun y M3 h3 => ?_)
  exact G_icmp_eq hG hd ht (fun hc => kT _ (by rw [if_pos hc] at h3; exact h3)) (fun hc => kF _ (by rw [if_neg hc] at h3; exact h3))
theorem C_eq_T0 (hG : Mach own cc nL mn R ret nt L xs Rt G) {a : IE} {off : Int} {tgt : Nat} (ha : IAt G pc p1 d a) (hd : decode cc p1 = .ok (.ifCond .eq off, 3)) (ht : (p1 : Int) + off = (tgt : Int)) : CAt G pc tgt (p1 + 3) d (cEq a (iC 0)) := by
  intro KT KF ρ M sv hs h kT kF
  refine ha _ ρ M sv hs h (fun x M2 h3 => ?_)
  simp only [iC] at h3
  exact G_if_eq hG hd ht (fun hc => kT _ (by rw [if_pos hc] at h3; exact h3)) (fun hc => kF _ (by rw [if_neg hc] at h3; exact h3))
theorem C_eq_F (hG : Mach own cc nL mn R ret nt L xs Rt G) {a b : IE} {off : Int} {tgt : Nat} (ha : IAt G pc p1 d a) (hb : IAt G p1 p2 (d + 1) b) (hd : decode cc p2 = .ok (.if_icmp .ne off, 3)) (ht : (p2 : Int) + off = (tgt : Int)) : CAt G pc (p2 + 3) tgt d (cEq a b) := by
  intro KT KF ρ M sv hs h kT kF
  refine ha _ ρ M sv hs h (fun x M2 h2 => ?_)
  refine hb _ ρ M2 _ (by simp; omega) h2 (fun y M3 h3 => ?_)
  exact G_icmp_ne hG hd ht (fun hc => kF _ (by rw [if_neg hc] at h3; exact h3)) (fun hc => kT _ (by rw [if_pos (Decidable.not_not.mp hc)] at h3; exact h3))
theorem C_eq_F0 (hG : Mach own cc nL mn R ret nt L xs Rt G) {a : IE} {off : Int} {tgt : Nat} (ha : IAt G pc p1 d a) (hd : decode cc p1 = .ok (.ifCond .ne off, 3)) (ht : (p1 : Int) + off = (tgt : Int)) : CAt G pc (p1 + 3) tgt d (cEq a (iC 0)) := by
  intro KT KF ρ M sv hs h kT kF
  refine ha _ ρ M sv hs h (fun x M2 h3 => ?_)
  simp only [iC] at h3
  exact G_if_ne hG hd ht (fun hc => kF _ (by rw [if_neg hc] at h3; exact h3)) (fun hc => kT _ (by rw [if_pos (Decidable.not_not.mp hc)] at h3; exact h3))
theorem C_ne_T (hG : Mach own cc nL mn R ret nt L xs Rt G) {a b : IE} {off : Int} {tgt : Nat} (ha : IAt G pc p1 d a) (hb : IAt G p1 p2 (d + 1) b) (hd : decode cc p2 = .ok (.if_icmp .ne off, 3)) (ht : (p2 : Int) + off = (tgt : Int)) : CAt G pc tgt (p2 + 3) d (cNe a b) := by
  intro KT KF ρ M sv hs h kT kF
  refine ha _ ρ M sv hs h (fun x M2 h2 => ?_)
  refine hb _ ρ M2 _ (by simp; omega) h2 (fun y M3 h3 => ?_)
  exact G_icmp_ne hG hd ht (fun hc => kT _ (by rw [if_pos hc] at h3; exact h3)) (fun hc => kF _ (by rw [if_neg hc] at h3; exact h3))
theorem C_ne_T0 (hG : Mach own cc nL mn R ret nt L xs Rt G) {a : IE} {off : Int} {tgt : Nat} (ha : IAt G pc p1 d a) (hd : decode cc p1 = .ok (.ifCond .ne off, 3)) (ht : (p1 : Int) + off = (tgt : Int)) : CAt G pc tgt (p1 + 3) d (cNe a (iC 0)) := by
  intro KT KF ρ M sv hs h kT kF
  refine ha _ ρ M sv hs h (fun x M2 h3 => ?_)
  simp only [iC] at h3
  exact G_if_ne hG hd ht (fun hc => kT _ (by rw [if_pos hc] at h3; exact h3)) (fun hc => kF _ (by rw [if_neg hc] at h3; exact h3))
theorem C_ne_F (hG : Mach own cc nL mn R ret nt L xs Rt G) {a b : IE} {off : Int} {tgt : Nat} (ha : IAt G pc p1 d a) (hb : IAt G p1 p2 (d + 1) b) (hd : decode cc p2 = .ok (.if_icmp .eq off, 3)) (ht : (p2 : Int) + off = (tgt : Int)) : CAt G pc (p2 + 3) tgt d (cNe a b) := by
  intro KT KF ρ M sv hs h kT kF
  refine ha _ ρ M sv hs h (fun x M2 h2 => ?_)
  refine hb _ ρ M2 _ (by simp; omega) h2 (fun y M3 h3 => ?_)
  exact G_icmp_eq hG hd ht (fun hc => kF _ (by rw [if_neg (fun q => q hc)] at h3; exact h3)) (fun hc => kT _ (by rw [if_pos hc] at h3; exact h3))
theorem C_ne_F0 (hG : Mach own cc nL mn R ret nt L xs Rt G) {a : IE} {off : Int} {tgt : Nat} (ha : IAt G pc p1 d a) (hd : decode cc p1 = .ok (.ifCond .eq off, 3)) (ht : (p1 : Int) + off = (tgt : Int)) : CAt G pc (p1 + 3) tgt d (cNe a (iC 0)) := by
  intro KT KF ρ M sv hs h kT kF
  refine ha _ ρ M sv hs h (fun x M2 h3 => ?_)
  simp only [iC] at h3
  exact G_if_eq hG hd ht (fun hc => kF _ (by rw [if_neg (fun q => q hc)] at h3; exact h3)) (fun hc => kT _ (by rw [if_pos hc] at h3; exact h3))
theorem C_lt_T (hG : Mach own cc nL mn R ret nt L xs Rt G) {a b : IE} {off : Int} {tgt : Nat} (ha : IAt G pc p1 d a) (hb : IAt G p1 p2 (d + 1) b) (hd : decode cc p2 = .ok (.if_icmp .lt off, 3)) (ht : (p2 : Int) + off = (tgt : Int)) : CAt G pc tgt (p2 + 3) d (cLt a b) := by
  intro KT KF ρ M sv hs h kT kF
  refine ha _ ρ M sv hs h (fun x M2 h2 => ?_)
  refine hb _ ρ M2 _ (by simp; omega) h2 (fun y M3 h3 => ?_)
  exact G_icmp_lt hG hd ht (fun hc => kT _ (by rw [if_pos hc] at h3; exact h3)) (fun hc => kF _ (by rw [if_neg hc] at h3; exact h3))
theorem C_lt_T0 (hG : Mach own cc nL mn R ret nt L xs Rt G) {a : IE} {off : Int} {tgt : Nat} (ha : IAt G pc p1 d a) (hd : decode cc p1 = .ok (.ifCond .lt off, 3)) (ht : (p1 : Int) + off = (tgt : Int)) : CAt G pc tgt (p1 + 3) d (cLt a (iC 0)) := by
  intro KT KF ρ M sv hs h kT kF
  refine ha _ ρ M sv hs h (fun x M2 h3 => ?_)
  simp only [iC] at h3
  exact G_if_lt hG hd ht (fun hc => kT _ (by rw [if_pos hc] at h3; exact h3)) (fun hc => kF _ (by rw [if_neg hc] at h3; exact h3))
theorem C_lt_F (hG : Mach own cc nL mn R ret nt L xs Rt G) {a b : IE} {off : Int} {tgt : Nat} (ha : IAt G pc p1 d a) (hb : IAt G p1 p2 (d + 1) b) (hd : decode cc p2 = .ok (.if_icmp .ge off, 3)) (ht : (p2 : Int) + off = (tgt : Int)) : CAt G pc (p2 + 3) tgt d (cLt a b) := by
  intro KT KF ρ M sv hs h kT kF
  refine ha _ ρ M sv hs h (fun x M2 h2 => ?_)
  refine hb _ ρ M2 _ (by simp; omega) h2 (fun y M3 h3 => ?_)
  exact G_icmp_ge hG hd ht (fun hc => kF _ (by rw [if_neg (by omega)] at h3; exact h3)) (fun hc => kT _ (by rw [if_pos (by omega)] at h3; exact h3))
theorem C_lt_F0 (hG : Mach own cc nL mn R ret nt L xs Rt G) {a : IE} {off : Int} {tgt : Nat} (ha : IAt G pc p1 d a) (hd : decode cc p1 = .ok (.ifCond .ge off, 3)) (ht : (p1 : Int) + off = (tgt : Int)) : CAt G pc (p1 + 3) tgt d (cLt a (iC 0)) := by
  intro KT KF ρ M sv hs h kT kF
  refine ha _ ρ M sv hs h (fun x M2 h3 => ?_)
  simp only [iC] at h3
  exact G_if_ge hG hd ht (fun hc => kF _ (by rw [if_neg (by omega)] at h3; exact h3)) (fun hc => kT _ (by rw [if_pos (by omega)] at h3; exact h3))
theorem C_ge_T (hG : Mach own cc nL mn R ret nt L xs Rt G) {a b : IE} {off : Int} {tgt : Nat} (ha : IAt G pc p1 d a) (hb : IAt G p1 p2 (d + 1) b) (hd : decode cc p2 = .ok (.if_icmp .ge off, 3)) (ht : (p2 : Int) + off = (tgt : Int)) : CAt G pc tgt (p2 + 3) d (cGe a b) := by
  intro KT KF ρ M sv hs h kT kF
  refine ha _ ρ M sv hs h (fun x M2 h2 => ?_)
  refine hb _ ρ M2 _ (by simp; omega) h2 (fun y M3 h3 => ?_)
  exact G_icmp_ge hG hd ht (fun hc => kT _ (by rw [if_pos hc] at h3; exact h3)) (fun hc => kF _ (by rw [if_neg hc] at h3; exact h3))
theorem C_ge_T0 (hG : Mach own cc nL mn R ret nt L xs Rt G) {a : IE} {off : Int} {tgt : Nat} (ha : IAt G pc p1 d a) (hd : decode cc p1 = .ok (.ifCond .ge off, 3)) (ht : (p1 : Int) + off = (tgt : Int)) : CAt G pc tgt (p1 + 3) d (cGe a (iC 0)) := by
  intro KT KF ρ M sv hs h kT kF
  refine ha _ ρ M sv hs h (fun x M2 h3 => ?_)
  simp only [iC] at h3
  exact G_if_ge hG hd ht (fun hc => kT _ (by rw [if_pos hc] at h3; exact h3)) (fun hc => kF _ (by rw [if_neg hc] at h3; exact h3))
theorem C_ge_F (hG : Mach own cc nL mn R ret nt L xs Rt G) {a b : IE} {off : Int} {tgt : Nat} (ha : IAt G pc p1 d a) (hb : IAt G p1 p2 (d + 1) b) (hd : decode cc p2 = .ok (.if_icmp .lt off, 3)) (ht : (p2 : Int) + off = (tgt : Int)) : CAt G pc (p2 + 3) tgt d (cGe a b) := by
  intro KT KF ρ M sv hs h kT kF
  refine ha _ ρ M sv hs h (fun x M2 h2 => ?_)
  refine hb _ ρ M2 _ (by simp; omega) h2 (fun y M3 h3 => ?_)
  exact G_icmp_lt hG hd ht (fun hc => kF _ (by rw [if_neg (by omega)] at h3; exact h3)) (fun hc => kT _ (by rw [if_pos (by omega)] at h3; exact h3))
theorem C_ge_F0 (hG : Mach own cc nL mn R ret nt L xs Rt G) {a : IE} {off : Int} {tgt : Nat} (ha : IAt G pc p1 d a) (hd : decode cc p1 = .ok (.ifCond .lt off, 3)) (ht : (p1 : Int) + off = (tgt : Int)) : CAt G pc (p1 + 3) tgt d (cGe a (iC 0)) := by
  intro KT KF ρ M sv hs h kT kF
  refine ha _ ρ M sv hs h (fun x M2 h3 => ?_)
  simp only [iC] at h3
  exact G_if_lt hG hd ht (fun hc => kF _ (by rw [if_neg (by omega)] at h3; exact h3)) (fun hc => kT _ (by rw [if_pos (by omega)] at h3; exact h3))
theorem C_gt_T (hG : Mach own cc nL mn R ret nt L xs Rt G) {a b : IE} {off : Int} {tgt : Nat} (ha : IAt G pc p1 d a) (hb : IAt G p1 p2 (d + 1) b) (hd : decode cc p2 = .ok (.if_icmp .gt off, 3)) (ht : (p2 : Int) + off = (tgt : Int)) : CAt G pc tgt (p2 + 3) d (cGt a b) := by
  intro KT KF ρ M sv hs h kT kF
  refine ha _ ρ M sv hs h (fun x M2 h2 => ?_)
  refine hb _ ρ M2 _ (by simp; omega) h2 (fun y M3 h3 => ?_)
  exact G_icmp_gt hG hd ht (fun hc => kT _ (by rw [if_pos hc] at h3; exact h3)) (fun hc => kF _ (by rw [if_neg hc] at h3; exact h3))
theorem C_gt_T0 (hG : Mach own cc nL mn R ret nt L xs Rt G) {a : IE} {off : Int} {tgt : Nat} (ha : IAt G pc p1 d a) (hd : decode cc p1 = .ok (.ifCond .gt off, 3)) (ht : (p1 : Int) + off = (tgt : Int)) : CAt G pc tgt (p1 + 3) d (cGt a (iC 0)) := by
  intro KT KF ρ M sv hs h kT kF
  refine ha _ ρ M sv hs h (fun x M2 h3 => ?_)
  simp only [iC] at h3
  exact G_if_gt hG hd ht (fun hc => kT _ (by rw [if_pos hc] at h3; exact h3)) (fun hc => kF _ (by rw [if_neg hc] at h3; exact h3))
theorem C_gt_F (hG : Mach own cc nL mn R ret nt L xs Rt G) {a b : IE} {off : Int} {tgt : Nat} (ha : IAt G pc p1 d a) (hb : IAt G p1 p2 (d + 1) b) (hd : decode cc p2 = .ok (.if_icmp .le off, 3)) (ht : (p2 : Int) + off = (tgt : Int)) : CAt G pc (p2 + 3) tgt d (cGt a b) := by
  intro KT KF ρ M sv hs h kT kF
  refine ha _ ρ M sv hs h (fun x M2 h2 => ?_)
  refine hb _ ρ M2 _ (by simp; omega) h2 (fun y M3 h3 => ?_)
  exact G_icmp_le hG hd ht (fun hc => kF _ (by rw [if_neg (by omega)] at h3; exact h3)) (fun hc => kT _ (by rw [if_pos (by omega)] at h3; exact h3))
theorem C_gt_F0 (hG : Mach own cc nL mn R ret nt L xs Rt G) {a : IE} {off : Int} {tgt : Nat} (ha : IAt G pc p1 d a) (hd : decode cc p1 = .ok (.ifCond .le off, 3)) (ht : (p1 : Int) + off = (tgt : Int)) : CAt G pc (p1 + 3) tgt d (cGt a (iC 0)) := by
  intro KT KF ρ M sv hs h kT kF
  refine ha _ ρ M sv hs h (fun x M2 h3 => ?_)
  simp only [iC] at h3
  exact G_if_le hG hd ht (fun hc => kF _ (by rw [if_neg (by omega)] at h3; exact h3)) (fun hc => kT _ (by rw [if_pos (by omega)] at h3; exact h3))
theorem C_le_T (hG : Mach own cc nL mn R ret nt L xs Rt G) {a b : IE} {off : Int} {tgt : Nat} (ha : IAt G pc p1 d a) (hb : IAt G p1 p2 (d + 1) b) (hd : decode cc p2 = .ok (.if_icmp .le off, 3)) (ht : (p2 : Int) + off = (tgt : Int)) : CAt G pc tgt (p2 + 3) d (cLe a b) := by
  intro KT KF ρ M sv hs h kT kF
  refine ha _ ρ M sv hs h (fun x M2 h2 => ?_)
  refine hb _ ρ M2 _ (by simp; omega) h2 (fun y M3 h3 => ?_)
  exact G_icmp_le hG hd ht (fun hc => kT _ (by rw [if_pos hc] at h3; exact h3)) (fun hc => kF _ (by rw [if_neg hc] at h3; exact h3))
theorem C_le_T0 (hG : Mach own cc nL mn R ret nt L xs Rt G) {a : IE} {off : Int} {tgt : Nat} (ha : IAt G pc p1 d a) (hd : decode cc p1 = .ok (.ifCond .le off, 3)) (ht : (p1 : Int) + off = (tgt : Int)) : CAt G pc tgt (p1 + 3) d (cLe a (iC 0)) := by
  intro KT KF ρ M sv hs h kT kF
  refine ha _ ρ M sv hs h (fun x M2 h3 => ?_)
  simp only [iC] at h3
  exact G_if_le hG hd ht (fun hc => kT _ (by rw [if_pos hc] at h3; exact h3)) (fun hc => kF _ (by rw [if_neg hc] at h3; exact h3))
theorem C_le_F (hG : Mach own cc nL mn R ret nt L xs Rt G) {a b : IE} {off : Int} {tgt : Nat} (ha : IAt G pc p1 d a) (hb : IAt G p1 p2 (d + 1) b) (hd : decode cc p2 = .ok (.if_icmp .gt off, 3)) (ht : (p2 : Int) + off = (tgt : Int)) : CAt G pc (p2 + 3) tgt d (cLe a b) := by
  intro KT KF ρ M sv hs h kT kF
  refine ha _ ρ M sv hs h (fun x M2 h2 => ?_)
  refine hb _ ρ M2 _ (by simp; omega) h2 (fun y M3 h3 => ?_)
  exact G_icmp_gt hG hd ht (fun hc => kF _ (by rw [if_neg (by omega)] at h3; exact h3)) (fun hc => kT _ (by rw [if_pos (by omega)] at h3; exact h3))
theorem C_le_F0 (hG : Mach own cc nL mn R ret nt L xs Rt G) {a : IE} {off : Int} {tgt : Nat} (ha : IAt G pc p1 d a) (hd : decode cc p1 = .ok (.ifCond .gt off, 3)) (ht : (p1 : Int) + off = (tgt : Int)) : CAt G pc (p1 + 3) tgt d (cLe a (iC 0)) := by
  intro KT KF ρ M sv hs h kT kF
  refine ha _ ρ M sv hs h (fun x M2 h3 => ?_)
  simp only [iC] at h3
  exact G_if_gt hG hd ht (fun hc => kF _ (by rw [if_neg (by omega)] at h3; exact h3)) (fun hc => kT _ (by rw [if_pos (by omega)] at h3; exact h3))
theorem C_and (hG : Mach own cc nL mn R ret nt L xs Rt G) {a b : CE} (ha : CAt G pc p1 p3 d a) (hb : CAt G p1 p2 p3 d b) : CAt G pc p2 p3 d (cAnd a b) := fun KT KF ρ M sv hs h kT kF => ha _ _ ρ M sv hs h (fun M2 h2 => hb _ _ ρ M2 sv hs h2 kT kF) kF
theorem C_or (hG : Mach own cc nL mn R ret nt L xs Rt G) {a b : CE} (ha : CAt G pc p2 p1 d a) (hb : CAt G p1 p2 p3 d b) : CAt G pc p2 p3 d (cOr a b) := fun KT KF ρ M sv hs h kT kF => ha _ _ ρ M sv hs h kT (fun M2 h2 => hb _ _ ρ M2 sv hs h2 kT kF)
theorem C_not (hG : Mach own cc nL mn R ret nt L xs Rt G) {a : CE} (ha : CAt G pc p1 p2 d a) : CAt G pc p2 p1 d (cNot a) := fun KT KF ρ M sv hs h kT kF => ha _ _ ρ M sv hs h kF kT
theorem C_gotoT (hG : Mach own cc nL mn R ret nt L xs Rt G) {a : CE} {off : Int} (ha : CAt G pc p1 p2 d a) (hd : decode cc p1 = .ok (.goto off, 3)) (ht : (p1 : Int) + off = (p3 : Int)) : CAt G pc p3 p2 d a := fun KT KF ρ M sv hs h kT kF => ha _ _ ρ M sv hs h (fun M2 h2 => G_goto hG hd ht (kT _ h2)) kF
theorem C_gotoF (hG : Mach own cc nL mn R ret nt L xs Rt G) {a : CE} {off : Int} (ha : CAt G pc p1 p2 d a) (hd : decode cc p2 = .ok (.goto off, 3)) (ht : (p2 : Int) + off = (p3 : Int)) : CAt G pc p1 p3 d a := fun KT KF ρ M sv hs h kT kF => ha _ _ ρ M sv hs h kT (fun M2 h2 => G_goto hG hd ht (kF _ h2))
theorem C_null (hG : Mach own cc nL mn R ret nt L xs Rt G) {r : RE} {off : Int} {tgt : Nat} (hr : RAt G pc p1 d r) (hd : decode cc p1 = .ok (.ifnull off, 3)) (ht : (p1 : Int) + off = (tgt : Int)) : CAt G pc tgt (p1 + 3) d (cNull r) := by
  intro KT KF ρ M sv hs h kT kF
  refine hr _ ρ M sv hs h (fun o M2 h3 => ?_)
  refine G_ifnull hG hd ht (fun hc => ?_) (fun hc => ?_)
  · subst hc
    exact kT _ h3
  · cases o with
    | none => exact absurd rfl hc
    | some q => exact kF _ h3
theorem S_skip (hG : Mach own cc nL mn R ret nt L xs Rt G)  : SAt G Rt pc pc sSkip := fun K ρ M h k => k _ _ h
theorem S_seq (hG : Mach own cc nL mn R ret nt L xs Rt G) {a b : ST} (ha : SAt G Rt pc p1 a) (hb : SAt G Rt p1 p2 b) : SAt G Rt pc p2 (sSeq a b) := fun K ρ M h k => ha _ ρ M h (fun ρ2 M2 h2 => hb _ ρ2 M2 h2 k)
theorem S_istore (hG : Mach own cc nL mn R ret nt L xs Rt G) {i : Nat} {e : IE} (he : IAt G pc p1 0 e) (hd : decode cc p1 = .ok (.istore i, 2)) (hi : i < nL) : SAt G Rt pc (p1 + 2) (sLoc i e) := fun K ρ M h k => he _ ρ M [] (Nat.zero_le _) h (fun x M2 h2 => G_istore hG hd hi (k _ _ h2))
theorem S_istore_n (hG : Mach own cc nL mn R ret nt L xs Rt G) {j : Fin 4} {i : Nat} {e : IE} (he : IAt G pc p1 0 e) (hd : decode cc p1 = .ok (.istore_n j, 1)) (hj : (j : Nat) = i) (hi : i < nL) : SAt G Rt pc (p1 + 1) (sLoc i e) := fun K ρ M h k => he _ ρ M [] (Nat.zero_le _) h (fun x M2 h2 => G_istore_n hG hd hj hi (k _ _ h2))
theorem S_astore (hG : Mach own cc nL mn R ret nt L xs Rt G) {i : Nat} {e : RE} (he : RAt G pc p1 0 e) (hd : decode cc p1 = .ok (.astore i, 2)) (hi : i < nL) : SAt G Rt pc (p1 + 2) (sLocR i e) := by
  intro K ρ M h k
  refine he _ ρ M [] (Nat.zero_le _) h (fun o M2 h2 => ?_)
  cases o with
  | none => exact h2.elim
  | some q => exact G_astore hG hd hi (k _ _ h2)
theorem S_astore_n (hG : Mach own cc nL mn R ret nt L xs Rt G) {j : Fin 4} {i : Nat} {e : RE} (he : RAt G pc p1 0 e) (hd : decode cc p1 = .ok (.astore_n j, 1)) (hj : (j : Nat) = i) (hi : i < nL) : SAt G Rt pc (p1 + 1) (sLocR i e) := by
  intro K ρ M h k
  refine he _ ρ M [] (Nat.zero_le _) h (fun o M2 h2 => ?_)
  cases o with
  | none => exact h2.elim
  | some q => exact G_astore_n hG hd hj hi (k _ _ h2)
theorem S_iinc (hG : Mach own cc nL mn R ret nt L xs Rt G) {i : Nat} {n : Int} (hd : decode cc pc = .ok (.iinc i n, 3)) (hi : i < nL) : SAt G Rt pc (pc + 3) (sInc i n) := by
  intro K ρ M h k
  unfold sInc at h
  split at h
  · rename_i z e
    exact G_iinc hG hd hi e h.1 (k _ _ h.2)
  · exact h.elim
theorem bool_nar {x : Int} (h : x = 0 ∨ x = 1) : narrow .boolean (.int (zI x)) = .int (zI x) ∧ fits .boolean (.int (zI x)) = true := by
  rcases h with rfl | rfl <;> exact ⟨by decide, by decide⟩
theorem S_putI (hG : Mach own cc nL mn R ret nt L xs Rt G) {idx ci j : Nat} {r : RE} {e : IE} (F : Pok own idx ci j false .int false) (hr : RAt G pc p1 0 r) (he : IAt G p1 p2 1 e) (hd : decode cc p2 = .ok (.putfield idx, 3)) : SAt G Rt pc (p2 + 3) (sPut false ci j r e) := by
  intro K ρ M h k
  refine hr _ ρ M [] (Nat.zero_le _) h (fun o M2 h2 => ?_)
  refine he _ ρ M2 _ (by simp) h2 (fun x M3 h3 => ?_)
  cases o with
  | none => exact h3.elim
  | some q =>
    obtain ⟨⟨w, hw⟩, -, h4⟩ := h3
    exact G_putI hG F hw rfl rfl hd (k _ _ h4)
theorem S_putB (hG : Mach own cc nL mn R ret nt L xs Rt G) {idx ci j : Nat} {r : RE} {e : IE} (F : Pok own idx ci j false .boolean false) (hr : RAt G pc p1 0 r) (he : IAt G p1 p2 1 e) (hd : decode cc p2 = .ok (.putfield idx, 3)) : SAt G Rt pc (p2 + 3) (sPut true ci j r e) := by
  intro K ρ M h k
  refine hr _ ρ M [] (Nat.zero_le _) h (fun o M2 h2 => ?_)
  refine he _ ρ M2 _ (by simp) h2 (fun x M3 h3 => ?_)
  cases o with
  | none => exact h3.elim
  | some q =>
    obtain ⟨⟨w, hw⟩, hb, h4⟩ := h3
    have hn := bool_nar (hb rfl)
    exact G_putI hG F hw hn.1 hn.2 hd (k _ _ h4)
theorem S_putR (hG : Mach own cc nL mn R ret nt L xs Rt G) {idx ci j : Nat} {ty : FieldType} {r r2 : RE} (F : Pok own idx ci j true ty true) (hmi : mn = "<init>") (hn : ∀ a : Nat, narrow ty (.ref a) = .ref a) (hft : ∀ a : Nat, fits ty (.ref a) = true) (hr : RAt G pc p1 0 r) (he : RAt G p1 p2 1 r2) (hd : decode cc p2 = .ok (.putfield idx, 3)) : SAt G Rt pc (p2 + 3) (sPutR ci j r r2) := by
  intro K ρ M h k
  refine hr _ ρ M [] (Nat.zero_le _) h (fun o M2 h2 => ?_)
  refine he _ ρ M2 _ (by simp) h2 (fun o2 M3 h3 => ?_)
  cases o with
  | none => exact h3.elim
  | some q =>
    cases o2 with
    | none => exact h3.elim
    | some v =>
      obtain ⟨⟨w, hw⟩, hv, h4⟩ := h3
      exact G_putR hG F hmi hw hv hn hft hd (k _ _ h4)
theorem S_putAdd (hG : Mach own cc nL mn R ret nt L xs Rt G) {idx ci j : Nat} {r : RE} {e : IE} (F0 : Fok own idx ci j false) (F : Pok own idx ci j false .int false) (hr : RAt G pc p1 0 r) (hd0 : decode cc p1 = .ok (.dup, 1)) (hd1 : decode cc (p1 + 1) = .ok (.getfield idx, 3)) (he : IAt G (p1 + 1 + 3) p2 2 e) (hd2 : decode cc p2 = .ok (.iadd, 1)) (hd : decode cc (p2 + 1) = .ok (.putfield idx, 3)) : SAt G Rt pc (p2 + 1 + 3) (sPutAdd ci j r e) := by
  intro K ρ M h k
  refine hr _ ρ M [] (Nat.zero_le _) h (fun o M2 h2 => ?_)
  cases o with
  | none => exact h2.elim
  | some q =>
    obtain ⟨⟨w, hw⟩, h3⟩ := h2
    refine G_dup hG hd0 (G_getI hG F0 hw hd1 ?_)
    refine he _ ρ M2 _ (by simp) h3 (fun x M3 h4 => ?_)
    obtain ⟨⟨w2, hw2⟩, hz, h5⟩ := h4
    exact G_iadd hG hd2 hz (G_putI hG F hw2 rfl rfl hd (k _ _ h5))
theorem S_putSub (hG : Mach own cc nL mn R ret nt L xs Rt G) {idx ci j : Nat} {r : RE} {e : IE} (F0 : Fok own idx ci j false) (F : Pok own idx ci j false .int false) (hr : RAt G pc p1 0 r) (hd0 : decode cc p1 = .ok (.dup, 1)) (hd1 : decode cc (p1 + 1) = .ok (.getfield idx, 3)) (he : IAt G (p1 + 1 + 3) p2 2 e) (hd2 : decode cc p2 = .ok (.isub, 1)) (hd : decode cc (p2 + 1) = .ok (.putfield idx, 3)) : SAt G Rt pc (p2 + 1 + 3) (sPutSub ci j r e) := by
  intro K ρ M h k
  refine hr _ ρ M [] (Nat.zero_le _) h (fun o M2 h2 => ?_)
  cases o with
  | none => exact h2.elim
  | some q =>
    obtain ⟨⟨w, hw⟩, h3⟩ := h2
    refine G_dup hG hd0 (G_getI hG F0 hw hd1 ?_)
    refine he _ ρ M2 _ (by simp) h3 (fun x M3 h4 => ?_)
    obtain ⟨⟨w2, hw2⟩, hz, h5⟩ := h4
    exact G_isub hG hd2 hz (G_putI hG F hw2 rfl rfl hd (k _ _ h5))
theorem S_iast (hG : Mach own cc nL mn R ret nt L xs Rt G) {r : RE} {i e : IE} (hr : RAt G pc p1 0 r) (hi : IAt G p1 p2 1 i) (he : IAt G p2 p3 2 e) (hd : decode cc p3 = .ok (.iastore, 1)) : SAt G Rt pc (p3 + 1) (sAst r i e) := by
  intro K ρ M h k
  refine hr _ ρ M [] (Nat.zero_le _) h (fun o M2 h2 => ?_)
  refine hi _ ρ M2 _ (by simp) h2 (fun x M3 h3 => ?_)
  refine he _ ρ M3 _ (by simp) h3 (fun z M4 h4 => ?_)
  cases o with
  | none => exact h4.elim
  | some q =>
    obtain ⟨n, hw, h0, h1, h5⟩ := h4
    exact G_iast hG hw h0 h1 hd (k _ _ h5)
theorem S_cast (hG : Mach own cc nL mn R ret nt L xs Rt G) {r : RE} {i e : IE} (hr : RAt G pc p1 0 r) (hi : IAt G p1 p2 1 i) (he : IAt G p2 p3 2 e) (hd : decode cc p3 = .ok (.castore, 1)) : SAt G Rt pc (p3 + 1) (sCst r i e) := by
  intro K ρ M h k
  refine hr _ ρ M [] (Nat.zero_le _) h (fun o M2 h2 => ?_)
  refine hi _ ρ M2 _ (by simp) h2 (fun x M3 h3 => ?_)
  refine he _ ρ M3 _ (by simp) h3 (fun z M4 h4 => ?_)
  cases o with
  | none => exact h4.elim
  | some q =>
    obtain ⟨n, hw, h0, h1, hz0, hz1, h5⟩ := h4
    exact G_cast hG hw h0 h1 hz0 hz1 hd (k _ _ h5)
theorem S_aast (hG : Mach own cc nL mn R ret nt L xs Rt G) {r e : RE} {i : IE} (hr : RAt G pc p1 0 r) (hi : IAt G p1 p2 1 i) (he : RAt G p2 p3 2 e) (hd : decode cc p3 = .ok (.aastore, 1)) : SAt G Rt pc (p3 + 1) (sRst r i e) := by
  intro K ρ M h k
  refine hr _ ρ M [] (Nat.zero_le _) h (fun o M2 h2 => ?_)
  refine hi _ ρ M2 _ (by simp) h2 (fun x M3 h3 => ?_)
  refine he _ ρ M3 _ (by simp) h3 (fun v M4 h4 => ?_)
  cases o with
  | none => exact h4.elim
  | some q =>
    cases v with
    | none => exact h4.elim
    | some u =>
      obtain ⟨n, w, hw, hv, h0, h1, h5⟩ := h4
      exact G_aast hG hw hv h0 h1 hd (k _ _ h5)
theorem S_astAdd (hG : Mach own cc nL mn R ret nt L xs Rt G) {r : RE} {i e : IE} (hr : RAt G pc p1 0 r) (hi : IAt G p1 p2 1 i) (hd0 : decode cc p2 = .ok (.dup2, 1)) (hd1 : decode cc (p2 + 1) = .ok (.iaload, 1)) (he : IAt G (p2 + 1 + 1) p3 3 e) (hd2 : decode cc p3 = .ok (.iadd, 1)) (hd : decode cc (p3 + 1) = .ok (.iastore, 1)) : SAt G Rt pc (p3 + 1 + 1) (sAstAdd r i e) := by
  intro K ρ M h k
  refine hr _ ρ M [] (Nat.zero_le _) h (fun o M2 h2 => ?_)
  refine hi _ ρ M2 _ (by simp) h2 (fun x M3 h3 => ?_)
  cases o with
  | none => exact h3.elim
  | some q =>
    obtain ⟨n, hw, h0, h1, h4⟩ := h3
    refine G_dup2 hG hd0 (G_iald hG hw h0 h1 hd1 ?_)
    refine he _ ρ M3 _ (by simp) h4 (fun z M4 h5 => ?_)
    obtain ⟨n2, hw2, h12, hz, h6⟩ := h5
    exact G_iadd hG hd2 hz (G_iast hG hw2 h0 h12 hd (k _ _ h6))
theorem S_astSub (hG : Mach own cc nL mn R ret nt L xs Rt G) {r : RE} {i e : IE} (hr : RAt G pc p1 0 r) (hi : IAt G p1 p2 1 i) (hd0 : decode cc p2 = .ok (.dup2, 1)) (hd1 : decode cc (p2 + 1) = .ok (.iaload, 1)) (he : IAt G (p2 + 1 + 1) p3 3 e) (hd2 : decode cc p3 = .ok (.isub, 1)) (hd : decode cc (p3 + 1) = .ok (.iastore, 1)) : SAt G Rt pc (p3 + 1 + 1) (sAstSub r i e) := by
  intro K ρ M h k
  refine hr _ ρ M [] (Nat.zero_le _) h (fun o M2 h2 => ?_)
  refine hi _ ρ M2 _ (by simp) h2 (fun x M3 h3 => ?_)
  cases o with
  | none => exact h3.elim
  | some q =>
    obtain ⟨n, hw, h0, h1, h4⟩ := h3
    refine G_dup2 hG hd0 (G_iald hG hw h0 h1 hd1 ?_)
    refine he _ ρ M3 _ (by simp) h4 (fun z M4 h5 => ?_)
    obtain ⟨n2, hw2, h12, hz, h6⟩ := h5
    exact G_isub hG hd2 hz (G_iast hG hw2 h0 h12 hd (k _ _ h6))
theorem S_if1 (hG : Mach own cc nL mn R ret nt L xs Rt G) {c : CE} {a : ST} (hc : CAt G pc p1 p2 0 c) (ha : SAt G Rt p1 p2 a) : SAt G Rt pc p2 (sIf1 c a) := fun K ρ M h k => hc _ _ ρ M [] (Nat.zero_le _) h (fun M2 h2 => ha _ ρ M2 h2 k) (fun M2 h2 => k _ _ h2)
theorem S_if (hG : Mach own cc nL mn R ret nt L xs Rt G) {c : CE} {a b : ST} (hc : CAt G pc p1 p2 0 c) (ha : SAt G Rt p1 p3 a) (hb : SAt G Rt p2 p3 b) : SAt G Rt pc p3 (sIf c a b) := fun K ρ M h k => hc _ _ ρ M [] (Nat.zero_le _) h (fun M2 h2 => ha _ ρ M2 h2 k) (fun M2 h2 => hb _ ρ M2 h2 k)
theorem S_goto (hG : Mach own cc nL mn R ret nt L xs Rt G) {a : ST} {off : Int} (ha : SAt G Rt pc p1 a) (hd : decode cc p1 = .ok (.goto off, 3)) (ht : (p1 : Int) + off = (p2 : Int)) : SAt G Rt pc p2 a := fun K ρ M h k => ha _ ρ M h (fun ρ2 M2 h2 => G_goto hG hd ht (k _ _ h2))
theorem S_while (hG : Mach own cc nL mn R ret nt L xs Rt G) {c : CE} {b : ST} (hc : CAt G pc p1 p2 0 c) (hb : SAt G Rt p1 pc b) : SAt G Rt pc p2 (sWhile c b) := by
  intro K ρ M h k
  obtain ⟨n, h⟩ := h
  induction n generalizing ρ M with
  | zero => exact h.elim
  | succ n ih => exact hc _ _ ρ M [] (Nat.zero_le _) h (fun M2 h2 => hb _ ρ M2 h2 (fun ρ3 M3 h3 => ih ρ3 M3 h3)) (fun M2 h2 => k _ _ h2)
theorem S_ret (hG : Mach own cc nL mn R ret nt L xs Rt G) {rt : FieldType} {e : IE} (hrt : ret = some rt) (hI : rt = .int) (he : IAt G pc p1 0 e) (hd : decode cc p1 = .ok (.ireturn, 1)) : SAt G Rt pc p2 (sRet false e) := by
  intro K ρ M h _
  refine he _ ρ M [] (Nat.zero_le _) h (fun x M2 h2 => ?_)
  exact G_ret hG hrt (by rw [hI]; rfl) hd h2.2
theorem S_retB (hG : Mach own cc nL mn R ret nt L xs Rt G) {rt : FieldType} {e : IE} (hrt : ret = some rt) (hI : rt = .boolean) (he : IAt G pc p1 0 e) (hd : decode cc p1 = .ok (.ireturn, 1)) : SAt G Rt pc p2 (sRet true e) := by
  intro K ρ M h _
  refine he _ ρ M [] (Nat.zero_le _) h (fun x M2 h2 => ?_)
  exact G_ret hG hrt (by rw [hI]; exact (bool_nar (h2.1 rfl)).1) hd h2.2
theorem S_retV (hG : Mach own cc nL mn R ret nt L xs Rt G) (hrt : ret = none) (hd : decode cc pc = .ok (.return_, 1)) : SAt G Rt pc p2 sRetV := fun K ρ M h _ => G_retV hG hrt hd h
theorem S_pop (hG : Mach own cc nL mn R ret nt L xs Rt G) {e : IE} (he : IAt G pc p1 0 e) (hd : decode cc p1 = .ok (.pop, 1)) : SAt G Rt pc (p1 + 1) (sPop e) := fun K ρ M h k => he _ ρ M [] (Nat.zero_le _) h (fun x M2 h2 => G_pop hG hd (k _ _ h2))
theorem S_obj (hG : Mach own cc nL mn R ret nt L xs Rt G) {idx : Nat} {r : RE} (hk : ∀ w ∈ ([.methodLink own idx Lib.objectInit, .instanceMethod Lib.objectInit, .code Lib.objectInit ⟨#[0xb1]⟩ 1 none] : List Cond), w ∈ gtb) (hR : 1 ≤ R.frames ∧ 12 ≤ R.locals) (hr : RAt G pc p1 0 r) (hd : decode cc p1 = .ok (.invokespecial idx, 3)) : SAt G Rt pc (p1 + 3) (sObj r) := by
  intro K ρ M h k
  refine hr _ ρ M [] (Nat.zero_le _) h (fun o M2 h2 => ?_)
  cases o with
  | none => exact h2.elim
  | some q =>
    exact G_objI hG hk ⟨hR.1, by simpa using hR.2⟩ hd (k _ _ h2)
theorem S_copy (hG : Mach own cc nL mn R ret nt L xs Rt G) {idx : Nat} {a b : RE} {i j n : IE} (hk : ∀ w ∈ ([.methodLink own idx arraycopyName, .native arraycopyName, .static arraycopyName, .initialized "java/lang/System"] : List Cond), w ∈ gtb) (hR : 1 ≤ R.frames ∧ 18 ≤ R.locals) (ha : RAt G pc p1 0 a) (hi : IAt G p1 p2 1 i) (hb : RAt G p2 p3 2 b) (hj : IAt G p3 p4 3 j) (hn : IAt G p4 p5 4 n) (hd : decode cc p5 = .ok (.invokestatic idx, 3)) : SAt G Rt pc (p5 + 3) (sCopy a b i j n) := by
  intro K ρ M h k
  refine ha _ ρ M [] (Nat.zero_le _) h (fun o M2 h2 => ?_)
  refine hi _ ρ M2 _ (by simp) h2 (fun sp M3 h3 => ?_)
  refine hb _ ρ M3 _ (by simp) h3 (fun o2 M4 h4 => ?_)
  refine hj _ ρ M4 _ (by simp) h4 (fun dp M5 h5 => ?_)
  refine hn _ ρ M5 _ (by simp) h5 (fun z M6 h6 => ?_)
  cases o with
  | none => exact h6.elim
  | some q0 =>
    cases o2 with
    | none => exact h6.elim
    | some q1 =>
      obtain ⟨n0, n1, w0, w1, e1, e2, e3, e4, e5, h7⟩ := h6
      exact G_copy hG hk ⟨hR.1, by simpa using hR.2⟩ w0 w1 e1 e2 e3 e4 e5 hd (k _ _ h7)
theorem S_copyT (hG : Mach own cc nL mn R ret nt L xs Rt G) {idx idx0 t : Nat} {host : String} {b : RE} {i j n : IE} (hk : ∀ w ∈ ([.methodLink own idx arraycopyName, .native arraycopyName, .static arraycopyName, .initialized "java/lang/System"] : List Cond), w ∈ gtb) (hR : 1 ≤ R.frames ∧ 18 ≤ R.locals) (ht : t < 3) (hlk : Cond.fieldLinkNest own idx0 "SungSlides" (stN t) "[I" host ∈ nestW) (hd0 : decode cc pc = .ok (.getstatic idx0, 3)) (hi : IAt G (pc + 3) p2 1 i) (hb : RAt G p2 p3 2 b) (hj : IAt G p3 p4 3 j) (hn : IAt G p4 p5 4 n) (hd : decode cc p5 = .ok (.invokestatic idx, 3)) : SAt G Rt pc (p5 + 3) (sCopyT xs t b i j n) := by
  intro K ρ M h k
  refine G_getsN hG ht hlk hd0 ?_
  refine hi _ ρ M _ (by simp) h (fun sp M3 h3 => ?_)
  refine hb _ ρ M3 _ (by simp) h3 (fun o2 M4 h4 => ?_)
  refine hj _ ρ M4 _ (by simp) h4 (fun dp M5 h5 => ?_)
  refine hn _ ρ M5 _ (by simp) h5 (fun z M6 h6 => ?_)
  cases o2 with
  | none => exact h6.elim
  | some q1 =>
      obtain ⟨n1, w1, e1, e2, e3, e4, e5, h7⟩ := h6
      exact G_copyT hG hk ⟨hR.1, by simpa using hR.2⟩ ht w1 e1 e2 e3 e4 e5 hd (k _ _ h7)
def SwAt (G : Gt) (Rt : Int → Mm → Prop) (pe : Nat) : List Nat → List ST → Prop
  | [], [] => True
  | t :: ts, f :: fs => SAt G Rt t pe f ∧ SwAt G Rt pe ts fs
  | _, _ => False
theorem SwAt_get {pe : Nat} : ∀ {ts : List Nat} {fs : List ST}, SwAt G Rt pe ts fs → ∀ i : Nat, i < fs.length → ∀ df : ST, SAt G Rt (ts.getD i 0) pe (fs.getD i df)
  | [], [], _, i, hi, _ => absurd hi (Nat.not_lt_zero i)
  | t :: ts, f :: fs, h, 0, _, _ => h.1
  | t :: ts, f :: fs, h, i + 1, hi, df => SwAt_get h.2 i (Nat.lt_of_succ_lt_succ hi) df
  | [], _ :: _, h, _, _, _ => h.elim
  | _ :: _, [], h, _, _, _ => h.elim
theorem SwAt_len {pe : Nat} : ∀ {ts : List Nat} {fs : List ST}, SwAt G Rt pe ts fs → ts.length = fs.length
  | [], [], _ => rfl
  | _ :: _, _ :: _, h => congrArg (· + 1) (SwAt_len h.2)
  | [], _ :: _, h => h.elim
  | _ :: _, [], h => h.elim
theorem S_sw (hG : Mach own cc nL mn R ret nt L xs Rt G) {e : IE} {lo hi dflt : Int} {offs : Array Int} {len dt : Nat} {ts : List Nat} {fs : List ST} {df : ST} (he : IAt G pc p1 0 e) (hd : decode cc p1 = .ok (.tableswitch dflt lo hi offs, len)) (hdt : (p1 : Int) + dflt = (dt : Int)) (hof : offs.toList.map (fun o => (p1 : Int) + o) = ts.map (fun (t : Nat) => (t : Int))) (hhi : lo + fs.length = hi + 1) (hs : SwAt G Rt p2 ts fs) (hdf : SAt G Rt dt p2 df) : SAt G Rt pc p2 (sSw e lo fs df) := by
  intro K ρ M h k
  refine he _ ρ M [] (Nat.zero_le _) h (fun x M2 h2 => ?_)
  have hl := SwAt_len hs
  refine G_tab hG hd (fun z => ts.getD (z - lo).toNat 0) dt hdt (fun z h0 h1 => ?_) (fun h0 h1 => ?_) (fun h0 => ?_)
  · have hlt : (z - lo).toNat < ts.length := by omega
    have h3 := congrArg (fun l => l[(z - lo).toNat]?) hof
    simp only [List.getElem?_map, Array.getElem?_toList, List.getElem?_eq_getElem hlt, Option.map_some] at h3
    cases h4 : offs[(z - lo).toNat]? with
    | none => rw [h4] at h3; cases h3
    | some o =>
      rw [h4] at h3
      exact ⟨o, rfl, by rw [List.getD_eq_getElem?_getD, List.getElem?_eq_getElem hlt]; exact Option.some.inj h3⟩
  · rw [if_pos ⟨h0, by omega⟩] at h2
    exact SwAt_get hs (x - lo).toNat (by omega) df _ ρ M2 h2 k
  · rw [if_neg (by omega)] at h2
    exact hdf _ ρ M2 h2 k
end AT
end
section
theorem lg_len (ad : Nat → Nat) (av : List Vv) : (lg_sl (av.map (cv ad))).length = av.length := by
  induction av with
  | nil => rfl
  | cons v t ih =>
    have h1 : lg_sl ((v :: t).map (cv ad)) = .val (cv ad v) :: lg_sl (t.map (cv ad)) := by
      show (if (cv ad v).category = 2 then ([.val (cv ad v), .second] : List Slot) else [.val (cv ad v)]) ++ lg_sl (t.map (cv ad)) = _
      rw [cv_cat]
      rfl
    rw [h1, List.length_cons, List.length_cons, ih]
theorem lv_args_in (ad : Nat → Nat) : ∀ (av : List Vv) (k i : Nat) (v : Vv), av[i]? = some v → (k + i, cv ad v) ∈ lv_args k (av.map (cv ad))
  | [], _, _, _, h => by simp at h
  | w :: t, k, 0, v, h => by
    cases h
    exact List.mem_cons_self
  | w :: t, k, i + 1, v, h => by
    have h1 := lv_args_in ad t (k + 1) i v h
    have h2 : lv_args k ((w :: t).map (cv ad)) = (k, cv ad w) :: lv_args (k + 1) (t.map (cv ad)) := by
      show (_ :: lv_args (if (cv ad w).category = 2 then _ else _) _) = _
      rw [cv_cat]
      rfl
    rw [h2, show k + (i + 1) = k + 1 + i by omega]
    exact List.mem_cons_of_mem _ h1
theorem ent_at {av : List Vv} {lc ls : Int} {i : Nat} {v : Vv} (h : av[i]? = some v) : ent av lc ls i = v := by simp [ent, h]
theorem ent_no {av : List Vv} {lc ls : Int} {i : Nat} (h : av[i]? = none) (h1 : i < 1000) : ent av lc ls i = .inr none := by
  unfold ent
  rw [h]
  show (if i = 1000 then _ else _) = _
  rw [if_neg (by omega), if_neg (by omega)]
theorem ent_env {ad : Nat → Nat} {av : List Vv} {lc ls : Int} {nL : Nat} (hn : nL ≤ 1000) {sl : Array Slot} (h : lv_has sl nL (lv_args 0 (av.map (cv ad)))) : lv_has sl nL (envL ad (ent av lc ls) nL) := by
  refine ⟨h.1, h.2.1, fun q hq => h.2.2 q ?_⟩
  obtain ⟨j, hj, hq⟩ := List.mem_filterMap.mp hq
  obtain ⟨rfl, hne⟩ := envF_to hq
  have hj := List.mem_range.mp hj
  cases e : av[j]? with
  | none => exact absurd (ent_no e (by omega)) hne
  | some v =>
    rw [ent_at e]
    have := lv_args_in ad av 0 j v e
    rwa [Nat.zero_add] at this
theorem ent_lim {av : List Vv} {lc ls : Int} (h : av.length ≤ 1000) : limC (ent av lc ls) = lc.toNat ∧ limS (ent av lc ls) = ls.toNat := by
  have h1 : av[1000]? = none := List.getElem?_eq_none h
  have h2 : av[1001]? = none := List.getElem?_eq_none (by omega)
  simp [limC, limS, ent, h1, h2]
set_option maxHeartbeats 1000000 in
theorem met_coreI {y : MethodName} {cy : ByteArray} {maxL pe : Nat} {rt : FieldType} {rm : Room} {S : ST} (al : List (Nat × Nat)) (hy : plainName y.cls = true) (hmL : maxL ≤ 1000) (hal : al.length = rm.cells ∧ ssum al = rm.slots)
    (body : ∀ (Rt : Int → Mm → Prop) (G : Gt), Mach y.cls cy maxL y.name rm (some rt) 3 0 (fun _ => 0) Rt G → SAt G Rt 0 pe S)
    (l : Launch) (dC : Nat → ClassId) (dI : Nat → Nat → Nat) (cI cC cS : ClassId) (sA : Nat → Nat) (av : List Vv) (M : Mm) (ad : Nat → Nat) (sz : Nat) (Rt : Int → Mm → Prop)
    (hMM : MOK M) (hva : ∀ v ∈ av, vok M v) (hsA : ∀ t, ad (1000000 + t) = sA t) (hlen : av.length ≤ maxL) (lc ls : Int) (hlim : lc.toNat ≤ M.1.length + rm.cells ∧ ls.toNat ≤ ssum M.1 + rm.slots)
    (hSS : S (fun _ _ => False) (fun r M2 => M2.1 = M.1 ++ al ∧ Rt r M2) (ent av lc ls) M) :
    Met l y (.code y cy maxL (some rt) :: gtb) rm (PcM dC dI cI cC cS sA av M ad sz) (va_Qi (fun r32 u => ∃ r : Int, r32 = zI r ∧ PuM Rt rm sA M ad r u) (BM dC dI cI cC cS (va_A (wsOf cI cC cS ad M) sz)) (va_A (wsOf cI cC cS ad M) sz)) rm.cells rm.slots (va_A (wsOf cI cC cS ad M) sz) := by
  refine Met.ofW (cc := cy) (maxL := maxL) (ret := (some rt)) hy rfl ?_
  intro p e s m args below meth c s₁ B hml hv
  obtain ⟨rfl, hsz, hP, hK, hD0, hSt⟩ := hv
  have hx := B.exec
  have hb := B.bytes
  have hr := B.returns
  have hts := atoms_spec (ws := .code y cy maxL (some rt) :: gtb) B.pre
  have hown : s.vm.findClass y.cls = some m.cls := findClass_of_methodNamed B.named
  have hlocks := B.notSynchronized
  have hin : meth.name = y.name := (name_of_methodNamed B.named B.method).1
  subst hsz
  have hD := hD0.self (sz := s.heap.size)
  generalize hAe : va_A (wsOf cI cC cS ad M) s.heap.size = A at hD hSt ⊢
  have hA : ∀ q : Nat, s.heap.size ≤ q → A q := fun q h => by rw [← hAe]; exact Or.inr h
  have hl := lv_entry (av.map (cv ad)) (n := maxL) (by rw [lg_len]; exact hlen)
  rw [lg_entry_eq]
  generalize (lg_sl (av.map (cv ad)) ++ List.replicate (maxL - (lg_sl (av.map (cv ad))).length) Slot.unset).toArray = sl at hl ⊢
  obtain ⟨elc, els⟩ := ent_lim (av := av) (lc := lc) (ls := ls) (by omega)
  have hmach : Mach y.cls cy maxL y.name rm (some rt) 3 0 (fun _ => 0) (fun r M2 => M2.1 = M.1 ++ al ∧ Rt r M2) (Wp p l e rm s m (av.map (cv ad)).toArray below meth c dC dI cI cC cS sA A maxL M.1.length (ssum M.1) ad (MQ below (va_Qi (fun r32 u => ∃ r : Int, r32 = zI r ∧ PuM Rt rm sA M ad r u) (BM dC dI cI cC cS A) A) (av.map (cv ad)).toArray s rm.cells rm.slots A)) := by
    refine ⟨p, l, e, s, m, _, below, meth, c, dC, dI, cI, cC, cS, sA, A, M.1.length, ssum M.1, ad, _, ⟨hx, hb, hml, hown, fun w hw => hts w (List.mem_cons_of_mem _ hw), hK, hA, hSt, hin, hmL, ?_, ?_⟩, rfl⟩
    · intro rt2 pc x ρ M2 hrt hn hd hR ad2 H locs cells slots ls2 hpt
      cases hrt
      obtain ⟨⟨hP2, hD2, hS2⟩, ⟨hM2, -, -, hvs⟩, ⟨⟨hn0, had0⟩, hsA2⟩, hcn, hsn, hcl, hsl, -, -⟩ := hpt
      have hxr : inR x := hvs (.inl x) List.mem_cons_self
      have hl1 : M2.1.length = M.1.length + rm.cells := by rw [hR.1, List.length_append, hal.1]
      have hl2 : ssum M2.1 = ssum M.1 + rm.slots := by rw [hR.1, ssum_app, hal.2]
      refine W.widen (k := rm.cells) (n := rm.slots) hcl hsl ?_
      exact W.zret (v := zI x) hx hb hr hn (fun t ht hW => ⟨⟨zI x, (M2, ad2), rfl, ⟨x, rfl, hR.2, hxr, hM2, hl1, hl2, had0, hsA2⟩, by rw [ht]; exact hP2, va_K.moved hW.alike hK, hD2⟩, hS2.F ht⟩) hS2.2.2 hd
    · intro pc ρ M2 hrt
      cases hrt
  have hG := body _ _ hmach (fun _ _ => False) _ M hSS (fun _ _ h => h.elim)
  refine hG ad s.heap [] 0 0 sl ⟨⟨hP, hD, va_S.rf⟩, ⟨hMM, ent_env hmL hl, fun i hi => ?_, fun v hv => by cases hv⟩, ⟨⟨Nat.le_refl _, fun _ _ => rfl⟩, hsA⟩, rfl, rfl, Nat.zero_le _, Nat.zero_le _, by rw [elc]; exact hlim.1, by rw [els]; exact hlim.2⟩
  cases e2 : av[i]? with
  | none =>
    rw [ent_no e2 hi]
    trivial
  | some v =>
    rw [ent_at e2]
    exact hva v (List.mem_of_getElem? e2)
theorem MOkI_mk {y : MethodName} {cy : ByteArray} {maxL pe n : Nat} {rt : FieldType} {rm : Room} {S : ST} (al : List (Nat × Nat)) (hy : plainName y.cls = true) (hmL : maxL ≤ 1000) (hn : n ≤ maxL) (hal : al.length = rm.cells ∧ ssum al = rm.slots)
    (body : ∀ (Rt : Int → Mm → Prop) (G : Gt), Mach y.cls cy maxL y.name rm (some rt) 3 0 (fun _ => 0) Rt G → SAt G Rt 0 pe S) : MOkI y cy maxL rt rm (mkM n al S) := by
  intro l dC dI cI cC cS sA av M ad sz Rt hMM hva hsA hMe
  obtain ⟨hlen, hS⟩ := hMe
  exact met_coreI al hy hmL hal body l dC dI cI cC cS sA av M ad sz Rt hMM hva hsA (by omega) _ _ ⟨by rw [← hal.1]; omega, by rw [← hal.2]; omega⟩ hS
theorem MOkI_mk0 {y : MethodName} {cy : ByteArray} {maxL pe n : Nat} {rt : FieldType} {rm : Room} {S : ST} (hy : plainName y.cls = true) (hmL : maxL ≤ 1000) (hn : n ≤ maxL) (h0 : rm.cells = 0 ∧ rm.slots = 0)
    (body : ∀ (Rt : Int → Mm → Prop) (G : Gt), Mach y.cls cy maxL y.name rm (some rt) 3 0 (fun _ => 0) Rt G → SAt G Rt 0 pe S) : MOkI y cy maxL rt rm (mk0 n S) := by
  intro l dC dI cI cC cS sA av M ad sz Rt hMM hva hsA hMe
  obtain ⟨hlen, hS⟩ := hMe
  exact met_coreI [] hy hmL ⟨h0.1.symm, h0.2.symm⟩ body l dC dI cI cC cS sA av M ad sz Rt hMM hva hsA (by omega) 0 0 ⟨by omega, by omega⟩ (by simpa using hS)
set_option maxHeartbeats 1000000 in
theorem met_coreV {y : MethodName} {cy : ByteArray} {maxL pe : Nat} {rm : Room} {S : ST} (al : List (Nat × Nat)) (hy : plainName y.cls = true) (hmL : maxL ≤ 1000) (hal : al.length = rm.cells ∧ ssum al = rm.slots)
    (body : ∀ (Rt : Int → Mm → Prop) (G : Gt), Mach y.cls cy maxL y.name rm none 3 0 (fun _ => 0) Rt G → SAt G Rt 0 pe S)
    (l : Launch) (dC : Nat → ClassId) (dI : Nat → Nat → Nat) (cI cC cS : ClassId) (sA : Nat → Nat) (av : List Vv) (M : Mm) (ad : Nat → Nat) (sz : Nat) (Rt : Int → Mm → Prop)
    (hMM : MOK M) (hva : ∀ v ∈ av, vok M v) (hsA : ∀ t, ad (1000000 + t) = sA t) (hlen : av.length ≤ maxL) (lc ls : Int) (hlim : lc.toNat ≤ M.1.length + rm.cells ∧ ls.toNat ≤ ssum M.1 + rm.slots)
    (hSS : S (fun _ _ => False) (fun r M2 => M2.1 = M.1 ++ al ∧ Rt r M2) (ent av lc ls) M) :
    Met l y (.code y cy maxL none :: gtb) rm (PcM dC dI cI cC cS sA av M ad sz) (va_Qv (fun u => PuM Rt rm sA M ad 0 u) (BM dC dI cI cC cS (va_A (wsOf cI cC cS ad M) sz)) (va_A (wsOf cI cC cS ad M) sz)) rm.cells rm.slots (va_A (wsOf cI cC cS ad M) sz) := by
  refine Met.ofW (cc := cy) (maxL := maxL) (ret := none) hy rfl ?_
  intro p e s m args below meth c s₁ B hml hv
  obtain ⟨rfl, hsz, hP, hK, hD0, hSt⟩ := hv
  have hx := B.exec
  have hb := B.bytes
  have hr := B.returns
  have hts := atoms_spec (ws := .code y cy maxL none :: gtb) B.pre
  have hown : s.vm.findClass y.cls = some m.cls := findClass_of_methodNamed B.named
  have hlocks := B.notSynchronized
  have hin : meth.name = y.name := (name_of_methodNamed B.named B.method).1
  subst hsz
  have hD := hD0.self (sz := s.heap.size)
  generalize hAe : va_A (wsOf cI cC cS ad M) s.heap.size = A at hD hSt ⊢
  have hA : ∀ q : Nat, s.heap.size ≤ q → A q := fun q h => by rw [← hAe]; exact Or.inr h
  have hl := lv_entry (av.map (cv ad)) (n := maxL) (by rw [lg_len]; exact hlen)
  rw [lg_entry_eq]
  generalize (lg_sl (av.map (cv ad)) ++ List.replicate (maxL - (lg_sl (av.map (cv ad))).length) Slot.unset).toArray = sl at hl ⊢
  obtain ⟨elc, els⟩ := ent_lim (av := av) (lc := lc) (ls := ls) (by omega)
  have hmach : Mach y.cls cy maxL y.name rm none 3 0 (fun _ => 0) (fun r M2 => M2.1 = M.1 ++ al ∧ Rt r M2) (Wp p l e rm s m (av.map (cv ad)).toArray below meth c dC dI cI cC cS sA A maxL M.1.length (ssum M.1) ad (MQ below (va_Qv (fun u => PuM Rt rm sA M ad 0 u) (BM dC dI cI cC cS A) A) (av.map (cv ad)).toArray s rm.cells rm.slots A)) := by
    refine ⟨p, l, e, s, m, _, below, meth, c, dC, dI, cI, cC, cS, sA, A, M.1.length, ssum M.1, ad, _, ⟨hx, hb, hml, hown, fun w hw => hts w (List.mem_cons_of_mem _ hw), hK, hA, hSt, hin, hmL, ?_, ?_⟩, rfl⟩
    · intro rt pc x ρ M2 hrt
      cases hrt
    · intro pc ρ M2 hrt hd hR ad2 H locs cells slots ls2 hpt
      obtain ⟨⟨hP2, hD2, hS2⟩, ⟨hM2, -, -, hvs⟩, ⟨⟨hn0, had0⟩, hsA2⟩, hcn, hsn, hcl, hsl, -, -⟩ := hpt
      have hl1 : M2.1.length = M.1.length + rm.cells := by rw [hR.1, List.length_append, hal.1]
      have hl2 : ssum M2.1 = ssum M.1 + rm.slots := by rw [hR.1, ssum_app, hal.2]
      refine W.widen (k := rm.cells) (n := rm.slots) hcl hsl ?_
      exact W.vret hx hb hr (fun t ht hW => ⟨⟨(M2, ad2), rfl, ⟨hR.2, inR_0, hM2, hl1, hl2, had0, hsA2⟩, by rw [ht]; exact hP2, va_K.moved hW.alike hK, hD2⟩, hS2.F ht⟩) hS2.2.2 hd
  have hG := body _ _ hmach (fun _ _ => False) _ M hSS (fun _ _ h => h.elim)
  refine hG ad s.heap [] 0 0 sl ⟨⟨hP, hD, va_S.rf⟩, ⟨hMM, ent_env hmL hl, fun i hi => ?_, fun v hv => by cases hv⟩, ⟨⟨Nat.le_refl _, fun _ _ => rfl⟩, hsA⟩, rfl, rfl, Nat.zero_le _, Nat.zero_le _, by rw [elc]; exact hlim.1, by rw [els]; exact hlim.2⟩
  cases e2 : av[i]? with
  | none =>
    rw [ent_no e2 hi]
    trivial
  | some v =>
    rw [ent_at e2]
    exact hva v (List.mem_of_getElem? e2)
theorem MOkV_mk {y : MethodName} {cy : ByteArray} {maxL pe n : Nat} {rm : Room} {S : ST} (al : List (Nat × Nat)) (hy : plainName y.cls = true) (hmL : maxL ≤ 1000) (hn : n ≤ maxL) (hal : al.length = rm.cells ∧ ssum al = rm.slots)
    (body : ∀ (Rt : Int → Mm → Prop) (G : Gt), Mach y.cls cy maxL y.name rm none 3 0 (fun _ => 0) Rt G → SAt G Rt 0 pe S) : MOkV y cy maxL rm (mkM n al S) := by
  intro l dC dI cI cC cS sA av M ad sz Rt hMM hva hsA hMe
  obtain ⟨hlen, hS⟩ := hMe
  exact met_coreV al hy hmL hal body l dC dI cI cC cS sA av M ad sz Rt hMM hva hsA (by omega) _ _ ⟨by rw [← hal.1]; omega, by rw [← hal.2]; omega⟩ hS
theorem MOkV_mk0 {y : MethodName} {cy : ByteArray} {maxL pe n : Nat} {rm : Room} {S : ST} (hy : plainName y.cls = true) (hmL : maxL ≤ 1000) (hn : n ≤ maxL) (h0 : rm.cells = 0 ∧ rm.slots = 0)
    (body : ∀ (Rt : Int → Mm → Prop) (G : Gt), Mach y.cls cy maxL y.name rm none 3 0 (fun _ => 0) Rt G → SAt G Rt 0 pe S) : MOkV y cy maxL rm (mk0 n S) := by
  intro l dC dI cI cC cS sA av M ad sz Rt hMM hva hsA hMe
  obtain ⟨hlen, hS⟩ := hMe
  exact met_coreV [] hy hmL ⟨h0.1.symm, h0.2.symm⟩ body l dC dI cI cC cS sA av M ad sz Rt hMM hva hsA (by omega) 0 0 ⟨by omega, by omega⟩ (by simpa using hS)
end
section
theorem in_u0 : ∀ w ∈ u_ws RX0 TX0 2, w ∈ gtb := in_p _ [126, 128] (by decide +kernel) (by decide +kernel)
theorem in_u1 : ∀ w ∈ u_ws RX1 TX1 12, w ∈ gtb := in_p _ [184, 186, 188, 190, 192, 194, 196, 198, 200, 202, 204, 206] (by decide +kernel) (by decide +kernel)
theorem in_u2 : ∀ w ∈ u_ws RX2 TX2 3, w ∈ gtb := in_p _ [157, 159, 161] (by decide +kernel) (by decide +kernel)
theorem in_u3 : ∀ w ∈ u_ws RX3 TX3 6, w ∈ gtb := in_p _ [84, 86, 88, 90, 92, 94] (by decide +kernel) (by decide +kernel)
theorem in_u4 : ∀ w ∈ u_ws RX4 TX4 3, w ∈ gtb := in_p _ [108, 110, 112] (by decide +kernel) (by decide +kernel)
theorem in_u5 : ∀ w ∈ u_ws RX5 TX5 2, w ∈ gtb := in_p _ [139, 141] (by decide +kernel) (by decide +kernel)
theorem in_u6 : ∀ w ∈ u_ws RX6 TX6 8, w ∈ gtb := in_p _ [217, 219, 221, 223, 225, 227, 229, 231] (by decide +kernel) (by decide +kernel)
theorem in_u7 : ∀ w ∈ u_ws RX7 TX7 16, w ∈ gtb := in_p _ [682, 684, 686, 688, 690, 692, 694, 696, 698, 700, 702, 704, 706, 708, 710, 712] (by decide +kernel) (by decide +kernel)
set_option maxRecDepth 100000 in
theorem oiX6_1 : ∀ w ∈ ([.methodLink RX6 1 Lib.objectInit, .instanceMethod Lib.objectInit, .code Lib.objectInit ⟨#[0xb1]⟩ 1 none] : List Cond), w ∈ gtb := in_p [.methodLink RX6 1 Lib.objectInit, .instanceMethod Lib.objectInit, .code Lib.objectInit ⟨#[0xb1]⟩ 1 none] [63, 64, 65] rfl (by decide +kernel)
set_option maxRecDepth 100000 in
theorem ckX6_9 : CkI RX6 9 yX4_init cX4_init 2 0 := ⟨in_p [.methodLink RX6 9 yX4_init, .instanceMethod yX4_init, .initialized yX4_init.cls, .code yX4_init cX4_init 2 none] [68, 69, 49, 70] rfl (by decide +kernel), rfl, ⟨by decide +kernel, by decide +kernel, by decide +kernel⟩⟩
set_option maxRecDepth 100000 in
theorem noX6_7 : Nok RX6 7 4 := ⟨RX4, TX4, 3, tyX4, rfl, in_u4, tyX4_ok, in_p [Cond.classLink RX6 7 RX4] [66] rfl (by decide +kernel) _ List.mem_cons_self, in_p [Cond.instantiable RX4 3] [67] rfl (by decide +kernel) _ List.mem_cons_self, in_p [Cond.initialized RX4] [49] rfl (by decide +kernel) _ List.mem_cons_self, by decide, rfl, by decide +kernel⟩
set_option maxRecDepth 100000 in
theorem poX6_10 : Pok RX6 10 6 0 true (.object "SungSlides$State") true := ⟨RX6, TX6, 8, tyX6, rfl, by decide, in_u6, tyX6_ok, nmX6, in_p [Cond.fieldLink RX6 10 RX6 "now" "LSungSlides$State;"] [209] (by decide +kernel) (by decide +kernel) _ List.mem_cons_self, rfl, rfl, by decide +kernel, rfl, by decide, fun _ => rfl⟩
set_option maxRecDepth 100000 in
theorem poX6_16 : Pok RX6 16 6 1 true (.object "SungSlides$State") true := ⟨RX6, TX6, 8, tyX6, rfl, by decide, in_u6, tyX6_ok, nmX6, in_p [Cond.fieldLink RX6 16 RX6 "would" "LSungSlides$State;"] [210] (by decide +kernel) (by decide +kernel) _ List.mem_cons_self, rfl, rfl, by decide +kernel, rfl, by decide, fun _ => rfl⟩
set_option maxRecDepth 100000 in
theorem poX6_19 : Pok RX6 19 6 2 true (.object "SungSlides$State") true := ⟨RX6, TX6, 8, tyX6, rfl, by decide, in_u6, tyX6_ok, nmX6, in_p [Cond.fieldLink RX6 19 RX6 "snapshot" "LSungSlides$State;"] [211] (by decide +kernel) (by decide +kernel) _ List.mem_cons_self, rfl, rfl, by decide +kernel, rfl, by decide, fun _ => rfl⟩
set_option maxRecDepth 100000 in
theorem poX6_22 : Pok RX6 22 6 3 false .boolean false := ⟨RX6, TX6, 8, tyX6, rfl, by decide, in_u6, tyX6_ok, nmX6, in_p [Cond.fieldLink RX6 22 RX6 "hasSnapshot" "Z"] [212] (by decide +kernel) (by decide +kernel) _ List.mem_cons_self, rfl, rfl, by decide +kernel, rfl, by decide, fun _ => rfl⟩
set_option maxRecDepth 100000 in
theorem ckX6_28 : CkI RX6 28 yX0_init cX0_init 2 0 := ⟨in_p [.methodLink RX6 28 yX0_init, .instanceMethod yX0_init, .initialized yX0_init.cls, .code yX0_init cX0_init 2 none] [117, 118, 52, 119] rfl (by decide +kernel), rfl, ⟨by decide +kernel, by decide +kernel, by decide +kernel⟩⟩
set_option maxRecDepth 100000 in
theorem noX6_26 : Nok RX6 26 0 := ⟨RX0, TX0, 2, tyX0, rfl, in_u0, tyX0_ok, in_p [Cond.classLink RX6 26 RX0] [115] rfl (by decide +kernel) _ List.mem_cons_self, in_p [Cond.instantiable RX0 2] [116] rfl (by decide +kernel) _ List.mem_cons_self, in_p [Cond.initialized RX0] [52] rfl (by decide +kernel) _ List.mem_cons_self, by decide, rfl, by decide +kernel⟩
set_option maxRecDepth 100000 in
theorem poX6_29 : Pok RX6 29 6 4 true (.object "SungSlides$History") true := ⟨RX6, TX6, 8, tyX6, rfl, by decide, in_u6, tyX6_ok, nmX6, in_p [Cond.fieldLink RX6 29 RX6 "history" "LSungSlides$History;"] [213] (by decide +kernel) (by decide +kernel) _ List.mem_cons_self, rfl, rfl, by decide +kernel, rfl, by decide, fun _ => rfl⟩
set_option maxRecDepth 100000 in
theorem ckX6_35 : CkIN RX6 35 "SungSlides" yX5_init cX5_init 1 0 := ⟨in_p [.instanceMethod yX5_init, .initialized yX5_init.cls, .code yX5_init cX5_init 1 none] [134, 53, 135] rfl (by decide +kernel), rfl, ⟨by decide +kernel, by decide +kernel, by decide +kernel⟩, in_n _ 133 rfl rfl⟩
set_option maxRecDepth 100000 in
theorem noX6_33 : Nok RX6 33 5 := ⟨RX5, TX5, 2, tyX5, rfl, in_u5, tyX5_ok, in_p [Cond.classLink RX6 33 RX5] [131] rfl (by decide +kernel) _ List.mem_cons_self, in_p [Cond.instantiable RX5 2] [132] rfl (by decide +kernel) _ List.mem_cons_self, in_p [Cond.initialized RX5] [53] rfl (by decide +kernel) _ List.mem_cons_self, by decide, rfl, by decide +kernel⟩
set_option maxRecDepth 100000 in
theorem poX6_36 : Pok RX6 36 6 5 true (.object "SungSlides$Text") true := ⟨RX6, TX6, 8, tyX6, rfl, by decide, in_u6, tyX6_ok, nmX6, in_p [Cond.fieldLink RX6 36 RX6 "text" "LSungSlides$Text;"] [214] (by decide +kernel) (by decide +kernel) _ List.mem_cons_self, rfl, rfl, by decide +kernel, rfl, by decide, fun _ => rfl⟩
set_option maxRecDepth 100000 in
theorem ckX6_42 : CkIN RX6 42 "SungSlides" yX2_init cX2_init 1 0 := ⟨in_p [.instanceMethod yX2_init, .initialized yX2_init.cls, .code yX2_init cX2_init 1 none] [148, 54, 149] rfl (by decide +kernel), rfl, ⟨by decide +kernel, by decide +kernel, by decide +kernel⟩, in_n _ 147 rfl rfl⟩
set_option maxRecDepth 100000 in
theorem noX6_40 : Nok RX6 40 2 := ⟨RX2, TX2, 3, tyX2, rfl, in_u2, tyX2_ok, in_p [Cond.classLink RX6 40 RX2] [145] rfl (by decide +kernel) _ List.mem_cons_self, in_p [Cond.instantiable RX2 3] [146] rfl (by decide +kernel) _ List.mem_cons_self, in_p [Cond.initialized RX2] [54] rfl (by decide +kernel) _ List.mem_cons_self, by decide, rfl, by decide +kernel⟩
set_option maxRecDepth 100000 in
theorem poX6_43 : Pok RX6 43 6 6 true (.object "SungSlides$Reader") true := ⟨RX6, TX6, 8, tyX6, rfl, by decide, in_u6, tyX6_ok, nmX6, in_p [Cond.fieldLink RX6 43 RX6 "reader" "LSungSlides$Reader;"] [215] (by decide +kernel) (by decide +kernel) _ List.mem_cons_self, rfl, rfl, by decide +kernel, rfl, by decide, fun _ => rfl⟩
set_option maxRecDepth 100000 in
theorem ckX6_49 : CkIN RX6 49 "SungSlides" yX1_init cX1_init 1 0 := ⟨in_p [.instanceMethod yX1_init, .initialized yX1_init.cls, .code yX1_init cX1_init 1 none] [167, 55, 168] rfl (by decide +kernel), rfl, ⟨by decide +kernel, by decide +kernel, by decide +kernel⟩, in_n _ 166 rfl rfl⟩
set_option maxRecDepth 100000 in
theorem noX6_47 : Nok RX6 47 1 := ⟨RX1, TX1, 12, tyX1, rfl, in_u1, tyX1_ok, in_p [Cond.classLink RX6 47 RX1] [164] rfl (by decide +kernel) _ List.mem_cons_self, in_p [Cond.instantiable RX1 12] [165] rfl (by decide +kernel) _ List.mem_cons_self, in_p [Cond.initialized RX1] [55] rfl (by decide +kernel) _ List.mem_cons_self, by decide, rfl, by decide +kernel⟩
set_option maxRecDepth 100000 in
theorem poX6_50 : Pok RX6 50 6 7 true (.object "SungSlides$Judge") true := ⟨RX6, TX6, 8, tyX6, rfl, by decide, in_u6, tyX6_ok, nmX6, in_p [Cond.fieldLink RX6 50 RX6 "judge" "LSungSlides$Judge;"] [216] (by decide +kernel) (by decide +kernel) _ List.mem_cons_self, rfl, rfl, by decide +kernel, rfl, by decide, fun _ => rfl⟩
set_option maxRecDepth 100000 in
theorem ckX6_54 : CkS RX6 54 yX6_isWithin cX6_isWithin 3 (some .boolean) 3 := ⟨in_p [.methodLink RX6 54 yX6_isWithin, .static yX6_isWithin, .initialized RX6, .code yX6_isWithin cX6_isWithin 3 (some .boolean)] [238, 239, 48, 240] rfl (by decide +kernel), rfl, ⟨by decide +kernel, by decide +kernel, by decide +kernel⟩⟩
set_option maxRecDepth 100000 in
theorem foX6_10 : Fok RX6 10 6 0 true := ⟨RX6, TX6, 8, rfl, by decide, in_u6, in_p [Cond.fieldLink RX6 10 RX6 "now" "LSungSlides$State;"] [209] (by decide +kernel) (by decide +kernel) _ List.mem_cons_self, rfl, rfl, by decide⟩
set_option maxRecDepth 100000 in
theorem foX6_58 : Fok RX6 58 4 0 true := ⟨RX4, TX4, 3, rfl, by decide, in_u4, in_p [Cond.fieldLink RX6 58 RX4 "song" "LSungSlides$Song;"] [105] (by decide +kernel) (by decide +kernel) _ List.mem_cons_self, rfl, rfl, by decide⟩
set_option maxRecDepth 100000 in
theorem ckX6_62 : CkV RX6 62 yX3_hasRoomFor cX3_hasRoomFor 3 (some .boolean) 2 := ⟨in_p [.methodLink RX6 62 yX3_hasRoomFor, .instanceMethod yX3_hasRoomFor, .selects yX3_hasRoomFor.cls yX3_hasRoomFor yX3_hasRoomFor, .initialized yX3_hasRoomFor.cls, .code yX3_hasRoomFor cX3_hasRoomFor 3 (some .boolean)] [241, 242, 243, 50, 244] rfl (by decide +kernel), ⟨by decide +kernel, by decide +kernel, by decide +kernel⟩⟩
set_option maxRecDepth 100000 in
theorem foX6_29 : Fok RX6 29 6 4 true := ⟨RX6, TX6, 8, rfl, by decide, in_u6, in_p [Cond.fieldLink RX6 29 RX6 "history" "LSungSlides$History;"] [213] (by decide +kernel) (by decide +kernel) _ List.mem_cons_self, rfl, rfl, by decide⟩
set_option maxRecDepth 100000 in
theorem ckX6_68 : CkV RX6 68 yX0_record cX0_record 2 none 1 := ⟨in_p [.methodLink RX6 68 yX0_record, .instanceMethod yX0_record, .selects yX0_record.cls yX0_record yX0_record, .initialized yX0_record.cls, .code yX0_record cX0_record 2 none] [261, 262, 263, 52, 264] rfl (by decide +kernel), ⟨by decide +kernel, by decide +kernel, by decide +kernel⟩⟩
set_option maxRecDepth 100000 in
theorem ckX6_72 : CkV RX6 72 yX3_append cX3_append 8 (some .int) 5 := ⟨in_p [.methodLink RX6 72 yX3_append, .instanceMethod yX3_append, .selects yX3_append.cls yX3_append yX3_append, .initialized yX3_append.cls, .code yX3_append cX3_append 8 (some .int)] [279, 280, 281, 50, 282] rfl (by decide +kernel), ⟨by decide +kernel, by decide +kernel, by decide +kernel⟩⟩
set_option maxRecDepth 100000 in
theorem ckX6_76 : CkV RX6 76 yX3_size cX3_size 1 (some .int) 0 := ⟨in_p [.methodLink RX6 76 yX3_size, .instanceMethod yX3_size, .selects yX3_size.cls yX3_size yX3_size, .initialized yX3_size.cls, .code yX3_size cX3_size 1 (some .int)] [295, 296, 297, 50, 298] rfl (by decide +kernel), ⟨by decide +kernel, by decide +kernel, by decide +kernel⟩⟩
set_option maxRecDepth 100000 in
theorem ckX6_80 : CkV RX6 80 yX3_removeLast cX3_removeLast 1 (some .int) 0 := ⟨in_p [.methodLink RX6 80 yX3_removeLast, .instanceMethod yX3_removeLast, .selects yX3_removeLast.cls yX3_removeLast yX3_removeLast, .initialized yX3_removeLast.cls, .code yX3_removeLast cX3_removeLast 1 (some .int)] [299, 300, 301, 50, 302] rfl (by decide +kernel), ⟨by decide +kernel, by decide +kernel, by decide +kernel⟩⟩
set_option maxRecDepth 100000 in
theorem foX6_16 : Fok RX6 16 6 1 true := ⟨RX6, TX6, 8, rfl, by decide, in_u6, in_p [Cond.fieldLink RX6 16 RX6 "would" "LSungSlides$State;"] [210] (by decide +kernel) (by decide +kernel) _ List.mem_cons_self, rfl, rfl, by decide⟩
set_option maxRecDepth 100000 in
theorem foX6_43 : Fok RX6 43 6 6 true := ⟨RX6, TX6, 8, rfl, by decide, in_u6, in_p [Cond.fieldLink RX6 43 RX6 "reader" "LSungSlides$Reader;"] [215] (by decide +kernel) (by decide +kernel) _ List.mem_cons_self, rfl, rfl, by decide⟩
set_option maxRecDepth 100000 in
theorem foX6_36 : Fok RX6 36 6 5 true := ⟨RX6, TX6, 8, rfl, by decide, in_u6, in_p [Cond.fieldLink RX6 36 RX6 "text" "LSungSlides$Text;"] [214] (by decide +kernel) (by decide +kernel) _ List.mem_cons_self, rfl, rfl, by decide⟩
set_option maxRecDepth 100000 in
theorem ckX6_83 : CkV RX6 83 yX2_readInto cX2_readInto 5 none 2 := ⟨in_p [.methodLink RX6 83 yX2_readInto, .instanceMethod yX2_readInto, .selects yX2_readInto.cls yX2_readInto yX2_readInto, .initialized yX2_readInto.cls, .code yX2_readInto cX2_readInto 5 none] [307, 308, 309, 54, 310] rfl (by decide +kernel), ⟨by decide +kernel, by decide +kernel, by decide +kernel⟩⟩
set_option maxRecDepth 100000 in
theorem foX6_87 : Fok RX6 87 2 1 false := ⟨RX2, TX2, 3, rfl, by decide, in_u2, in_p [Cond.fieldLink RX6 87 RX2 "hasFault" "Z"] [154] (by decide +kernel) (by decide +kernel) _ List.mem_cons_self, rfl, rfl, by decide⟩
set_option maxRecDepth 100000 in
theorem foX6_90 : Fok RX6 90 2 0 false := ⟨RX2, TX2, 3, rfl, by decide, in_u2, in_p [Cond.fieldLink RX6 90 RX2 "place" "I"] [152] (by decide +kernel) (by decide +kernel) _ List.mem_cons_self, rfl, rfl, by decide⟩
set_option maxRecDepth 100000 in
theorem foX6_94 : Fok RX6 94 2 2 false := ⟨RX2, TX2, 3, rfl, by decide, in_u2, in_p [Cond.fieldLink RX6 94 RX2 "isTooLong" "Z"] [156] (by decide +kernel) (by decide +kernel) _ List.mem_cons_self, rfl, rfl, by decide⟩
set_option maxRecDepth 100000 in
theorem ckX6_97 : CkV RX6 97 yX3_copyFrom cX3_copyFrom 2 none 1 := ⟨in_p [.methodLink RX6 97 yX3_copyFrom, .instanceMethod yX3_copyFrom, .selects yX3_copyFrom.cls yX3_copyFrom yX3_copyFrom, .initialized yX3_copyFrom.cls, .code yX3_copyFrom cX3_copyFrom 2 none] [342, 275, 276, 50, 277] rfl (by decide +kernel), ⟨by decide +kernel, by decide +kernel, by decide +kernel⟩⟩
set_option maxRecDepth 100000 in
theorem ckX6_101 : CkS RX6 101 yX6_isSetting cX6_isSetting 1 (some .boolean) 1 := ⟨in_p [.methodLink RX6 101 yX6_isSetting, .static yX6_isSetting, .initialized RX6, .code yX6_isSetting cX6_isSetting 1 (some .boolean)] [347, 348, 48, 349] rfl (by decide +kernel), rfl, ⟨by decide +kernel, by decide +kernel, by decide +kernel⟩⟩
set_option maxRecDepth 100000 in
theorem ckX6_105 : CkS RX6 105 yX6_isValueOf cX6_isValueOf 2 (some .boolean) 2 := ⟨in_p [.methodLink RX6 105 yX6_isValueOf, .static yX6_isValueOf, .initialized RX6, .code yX6_isValueOf cX6_isValueOf 2 (some .boolean)] [350, 351, 48, 352] rfl (by decide +kernel), rfl, ⟨by decide +kernel, by decide +kernel, by decide +kernel⟩⟩
set_option maxRecDepth 100000 in
theorem ckX6_108 : CkV RX6 108 yX4_setting cX4_setting 2 (some .int) 1 := ⟨in_p [.methodLink RX6 108 yX4_setting, .instanceMethod yX4_setting, .selects yX4_setting.cls yX4_setting yX4_setting, .initialized yX4_setting.cls, .code yX4_setting cX4_setting 2 (some .int)] [357, 358, 359, 49, 360] rfl (by decide +kernel), ⟨by decide +kernel, by decide +kernel, by decide +kernel⟩⟩
set_option maxRecDepth 100000 in
theorem ckX6_112 : CkV RX6 112 yX4_change cX4_change 3 none 2 := ⟨in_p [.methodLink RX6 112 yX4_change, .instanceMethod yX4_change, .selects yX4_change.cls yX4_change yX4_change, .initialized yX4_change.cls, .code yX4_change cX4_change 3 none] [361, 362, 363, 49, 364] rfl (by decide +kernel), ⟨by decide +kernel, by decide +kernel, by decide +kernel⟩⟩
set_option maxRecDepth 100000 in
theorem ckX6_116 : CkS RX6 116 yX6_areTicks cX6_areTicks 3 (some .boolean) 3 := ⟨in_p [.methodLink RX6 116 yX6_areTicks, .static yX6_areTicks, .initialized RX6, .code yX6_areTicks cX6_areTicks 3 (some .boolean)] [369, 370, 48, 371] rfl (by decide +kernel), rfl, ⟨by decide +kernel, by decide +kernel, by decide +kernel⟩⟩
set_option maxRecDepth 100000 in
theorem ckX6_119 : CkV RX6 119 yX4_voice cX4_voice 5 none 3 := ⟨in_p [.methodLink RX6 119 yX4_voice, .instanceMethod yX4_voice, .selects yX4_voice.cls yX4_voice yX4_voice, .initialized yX4_voice.cls, .code yX4_voice cX4_voice 5 none] [372, 373, 374, 49, 375] rfl (by decide +kernel), ⟨by decide +kernel, by decide +kernel, by decide +kernel⟩⟩
set_option maxRecDepth 100000 in
theorem ckX6_123 : CkV RX6 123 yX6_hitsNow cX6_hitsNow 1 (some .int) 0 := ⟨in_p [.methodLink RX6 123 yX6_hitsNow, .instanceMethod yX6_hitsNow, .selects yX6_hitsNow.cls yX6_hitsNow yX6_hitsNow, .initialized yX6_hitsNow.cls, .code yX6_hitsNow cX6_hitsNow 1 (some .int)] [381, 383, 4, 48, 384] rfl (by decide +kernel), ⟨by decide +kernel, by decide +kernel, by decide +kernel⟩⟩
set_option maxRecDepth 100000 in
theorem ckX6_126 : CkV RX6 126 yX4_soundingTicks cX4_soundingTicks 3 (some .int) 0 := ⟨in_p [.methodLink RX6 126 yX4_soundingTicks, .instanceMethod yX4_soundingTicks, .selects yX4_soundingTicks.cls yX4_soundingTicks yX4_soundingTicks, .initialized yX4_soundingTicks.cls, .code yX4_soundingTicks cX4_soundingTicks 3 (some .int)] [490, 491, 492, 49, 493] rfl (by decide +kernel), ⟨by decide +kernel, by decide +kernel, by decide +kernel⟩⟩
set_option maxRecDepth 100000 in
theorem ckX6_129 : CkV RX6 129 yX3_has cX3_has 2 (some .boolean) 1 := ⟨in_p [.methodLink RX6 129 yX3_has, .instanceMethod yX3_has, .selects yX3_has.cls yX3_has yX3_has, .initialized yX3_has.cls, .code yX3_has cX3_has 2 (some .boolean)] [498, 254, 255, 50, 256] rfl (by decide +kernel), ⟨by decide +kernel, by decide +kernel, by decide +kernel⟩⟩
set_option maxRecDepth 100000 in
theorem ckX6_132 : CkV RX6 132 yX4_voiceAsWanted cX4_voiceAsWanted 5 none 2 := ⟨in_p [.methodLink RX6 132 yX4_voiceAsWanted, .instanceMethod yX4_voiceAsWanted, .selects yX4_voiceAsWanted.cls yX4_voiceAsWanted yX4_voiceAsWanted, .initialized yX4_voiceAsWanted.cls, .code yX4_voiceAsWanted cX4_voiceAsWanted 5 none] [499, 500, 501, 49, 502] rfl (by decide +kernel), ⟨by decide +kernel, by decide +kernel, by decide +kernel⟩⟩
set_option maxRecDepth 100000 in
theorem ckX6_135 : CkV RX6 135 yX5_isFull cX5_isFull 1 (some .boolean) 0 := ⟨in_p [.methodLink RX6 135 yX5_isFull, .instanceMethod yX5_isFull, .selects yX5_isFull.cls yX5_isFull yX5_isFull, .initialized yX5_isFull.cls, .code yX5_isFull cX5_isFull 1 (some .boolean)] [510, 511, 512, 53, 513] rfl (by decide +kernel), ⟨by decide +kernel, by decide +kernel, by decide +kernel⟩⟩
set_option maxRecDepth 100000 in
theorem ckX6_139 : CkV RX6 139 yX5_append cX5_append 2 (some .int) 1 := ⟨in_p [.methodLink RX6 139 yX5_append, .instanceMethod yX5_append, .selects yX5_append.cls yX5_append yX5_append, .initialized yX5_append.cls, .code yX5_append cX5_append 2 (some .int)] [514, 515, 516, 53, 517] rfl (by decide +kernel), ⟨by decide +kernel, by decide +kernel, by decide +kernel⟩⟩
set_option maxRecDepth 100000 in
theorem ckX6_142 : CkV RX6 142 yX5_empty cX5_empty 2 (some .int) 0 := ⟨in_p [.methodLink RX6 142 yX5_empty, .instanceMethod yX5_empty, .selects yX5_empty.cls yX5_empty yX5_empty, .initialized yX5_empty.cls, .code yX5_empty cX5_empty 2 (some .int)] [522, 523, 524, 53, 525] rfl (by decide +kernel), ⟨by decide +kernel, by decide +kernel, by decide +kernel⟩⟩
set_option maxRecDepth 100000 in
theorem ckX6_145 : CkV RX6 145 yX0_size cX0_size 1 (some .int) 0 := ⟨in_p [.methodLink RX6 145 yX0_size, .instanceMethod yX0_size, .selects yX0_size.cls yX0_size yX0_size, .initialized yX0_size.cls, .code yX0_size cX0_size 1 (some .int)] [530, 531, 532, 52, 533] rfl (by decide +kernel), ⟨by decide +kernel, by decide +kernel, by decide +kernel⟩⟩
set_option maxRecDepth 100000 in
theorem ckX6_146 : CkV RX6 146 yX0_takeBackInto cX0_takeBackInto 2 (some .int) 1 := ⟨in_p [.methodLink RX6 146 yX0_takeBackInto, .instanceMethod yX0_takeBackInto, .selects yX0_takeBackInto.cls yX0_takeBackInto yX0_takeBackInto, .initialized yX0_takeBackInto.cls, .code yX0_takeBackInto cX0_takeBackInto 2 (some .int)] [534, 535, 536, 52, 537] rfl (by decide +kernel), ⟨by decide +kernel, by decide +kernel, by decide +kernel⟩⟩
set_option maxRecDepth 100000 in
theorem foX6_19 : Fok RX6 19 6 2 true := ⟨RX6, TX6, 8, rfl, by decide, in_u6, in_p [Cond.fieldLink RX6 19 RX6 "snapshot" "LSungSlides$State;"] [211] (by decide +kernel) (by decide +kernel) _ List.mem_cons_self, rfl, rfl, by decide⟩
set_option maxRecDepth 100000 in
theorem ckX6_150 : CkV RX6 150 yX4_copyFrom cX4_copyFrom 2 none 1 := ⟨in_p [.methodLink RX6 150 yX4_copyFrom, .instanceMethod yX4_copyFrom, .selects yX4_copyFrom.cls yX4_copyFrom yX4_copyFrom, .initialized yX4_copyFrom.cls, .code yX4_copyFrom cX4_copyFrom 2 none] [542, 271, 272, 49, 273] rfl (by decide +kernel), ⟨by decide +kernel, by decide +kernel, by decide +kernel⟩⟩
set_option maxRecDepth 100000 in
theorem foX6_22 : Fok RX6 22 6 3 false := ⟨RX6, TX6, 8, rfl, by decide, in_u6, in_p [Cond.fieldLink RX6 22 RX6 "hasSnapshot" "Z"] [212] (by decide +kernel) (by decide +kernel) _ List.mem_cons_self, rfl, rfl, by decide⟩
set_option maxRecDepth 100000 in
theorem foX6_50 : Fok RX6 50 6 7 true := ⟨RX6, TX6, 8, rfl, by decide, in_u6, in_p [Cond.fieldLink RX6 50 RX6 "judge" "LSungSlides$Judge;"] [216] (by decide +kernel) (by decide +kernel) _ List.mem_cons_self, rfl, rfl, by decide⟩
set_option maxRecDepth 100000 in
theorem ckX6_152 : CkV RX6 152 yX1_judge cX1_judge 3 none 1 := ⟨in_p [.methodLink RX6 152 yX1_judge, .instanceMethod yX1_judge, .selects yX1_judge.cls yX1_judge yX1_judge, .initialized yX1_judge.cls, .code yX1_judge cX1_judge 3 none] [385, 386, 387, 55, 388] rfl (by decide +kernel), ⟨by decide +kernel, by decide +kernel, by decide +kernel⟩⟩
set_option maxRecDepth 100000 in
theorem ckX6_154 : CkV RX6 154 yX3_beginningOf cX3_beginningOf 2 (some .int) 1 := ⟨in_p [.methodLink RX6 154 yX3_beginningOf, .instanceMethod yX3_beginningOf, .selects yX3_beginningOf.cls yX3_beginningOf yX3_beginningOf, .initialized yX3_beginningOf.cls, .code yX3_beginningOf cX3_beginningOf 2 (some .int)] [551, 250, 251, 50, 252] rfl (by decide +kernel), ⟨by decide +kernel, by decide +kernel, by decide +kernel⟩⟩
set_option maxRecDepth 100000 in
theorem ckX6_157 : CkV RX6 157 yX3_lengthOf cX3_lengthOf 2 (some .int) 1 := ⟨in_p [.methodLink RX6 157 yX3_lengthOf, .instanceMethod yX3_lengthOf, .selects yX3_lengthOf.cls yX3_lengthOf yX3_lengthOf, .initialized yX3_lengthOf.cls, .code yX3_lengthOf cX3_lengthOf 2 (some .int)] [552, 258, 259, 50, 260] rfl (by decide +kernel), ⟨by decide +kernel, by decide +kernel, by decide +kernel⟩⟩
set_option maxRecDepth 100000 in
theorem ckX6_160 : CkV RX6 160 yX3_pitchOf cX3_pitchOf 2 (some .int) 1 := ⟨in_p [.methodLink RX6 160 yX3_pitchOf, .instanceMethod yX3_pitchOf, .selects yX3_pitchOf.cls yX3_pitchOf yX3_pitchOf, .initialized yX3_pitchOf.cls, .code yX3_pitchOf cX3_pitchOf 2 (some .int)] [553, 407, 408, 50, 409] rfl (by decide +kernel), ⟨by decide +kernel, by decide +kernel, by decide +kernel⟩⟩
set_option maxRecDepth 100000 in
theorem ckX6_163 : CkV RX6 163 yX3_endPitchOf cX3_endPitchOf 2 (some .int) 1 := ⟨in_p [.methodLink RX6 163 yX3_endPitchOf, .instanceMethod yX3_endPitchOf, .selects yX3_endPitchOf.cls yX3_endPitchOf yX3_endPitchOf, .initialized yX3_endPitchOf.cls, .code yX3_endPitchOf cX3_endPitchOf 2 (some .int)] [554, 411, 412, 50, 413] rfl (by decide +kernel), ⟨by decide +kernel, by decide +kernel, by decide +kernel⟩⟩
set_option maxRecDepth 100000 in
theorem ckX6_166 : CkV RX6 166 yX3_phraseOf cX3_phraseOf 2 (some .int) 1 := ⟨in_p [.methodLink RX6 166 yX3_phraseOf, .instanceMethod yX3_phraseOf, .selects yX3_phraseOf.cls yX3_phraseOf yX3_phraseOf, .initialized yX3_phraseOf.cls, .code yX3_phraseOf cX3_phraseOf 2 (some .int)] [555, 288, 289, 50, 290] rfl (by decide +kernel), ⟨by decide +kernel, by decide +kernel, by decide +kernel⟩⟩
set_option maxRecDepth 100000 in
theorem ckX6_169 : CkV RX6 169 yX3_barLinesOf cX3_barLinesOf 5 (some .int) 2 := ⟨in_p [.methodLink RX6 169 yX3_barLinesOf, .instanceMethod yX3_barLinesOf, .selects yX3_barLinesOf.cls yX3_barLinesOf yX3_barLinesOf, .initialized yX3_barLinesOf.cls, .code yX3_barLinesOf cX3_barLinesOf 5 (some .int)] [556, 557, 558, 50, 559] rfl (by decide +kernel), ⟨by decide +kernel, by decide +kernel, by decide +kernel⟩⟩
set_option maxRecDepth 100000 in
theorem ckX6_173 : CkV RX6 173 yX1_matchesOf cX1_matchesOf 2 (some .int) 1 := ⟨in_p [.methodLink RX6 173 yX1_matchesOf, .instanceMethod yX1_matchesOf, .selects yX1_matchesOf.cls yX1_matchesOf yX1_matchesOf, .initialized yX1_matchesOf.cls, .code yX1_matchesOf cX1_matchesOf 2 (some .int)] [560, 442, 443, 55, 444] rfl (by decide +kernel), ⟨by decide +kernel, by decide +kernel, by decide +kernel⟩⟩
set_option maxRecDepth 100000 in
theorem ckX6_176 : CkV RX6 176 yX1_shareOf cX1_shareOf 2 (some .int) 1 := ⟨in_p [.methodLink RX6 176 yX1_shareOf, .instanceMethod yX1_shareOf, .selects yX1_shareOf.cls yX1_shareOf yX1_shareOf, .initialized yX1_shareOf.cls, .code yX1_shareOf cX1_shareOf 2 (some .int)] [561, 453, 454, 55, 455] rfl (by decide +kernel), ⟨by decide +kernel, by decide +kernel, by decide +kernel⟩⟩
set_option maxRecDepth 100000 in
theorem ckX6_179 : CkV RX6 179 yX1_onsetOf cX1_onsetOf 2 (some .int) 1 := ⟨in_p [.methodLink RX6 179 yX1_onsetOf, .instanceMethod yX1_onsetOf, .selects yX1_onsetOf.cls yX1_onsetOf yX1_onsetOf, .initialized yX1_onsetOf.cls, .code yX1_onsetOf cX1_onsetOf 2 (some .int)] [562, 449, 450, 55, 451] rfl (by decide +kernel), ⟨by decide +kernel, by decide +kernel, by decide +kernel⟩⟩
set_option maxRecDepth 100000 in
theorem ckX6_182 : CkV RX6 182 yX1_reasonOf cX1_reasonOf 2 (some .int) 1 := ⟨in_p [.methodLink RX6 182 yX1_reasonOf, .instanceMethod yX1_reasonOf, .selects yX1_reasonOf.cls yX1_reasonOf yX1_reasonOf, .initialized yX1_reasonOf.cls, .code yX1_reasonOf cX1_reasonOf 2 (some .int)] [563, 564, 565, 55, 566] rfl (by decide +kernel), ⟨by decide +kernel, by decide +kernel, by decide +kernel⟩⟩
set_option maxRecDepth 100000 in
theorem ckX6_185 : CkV RX6 185 yX1_pointsOf cX1_pointsOf 2 (some .int) 1 := ⟨in_p [.methodLink RX6 185 yX1_pointsOf, .instanceMethod yX1_pointsOf, .selects yX1_pointsOf.cls yX1_pointsOf yX1_pointsOf, .initialized yX1_pointsOf.cls, .code yX1_pointsOf cX1_pointsOf 2 (some .int)] [567, 568, 569, 55, 570] rfl (by decide +kernel), ⟨by decide +kernel, by decide +kernel, by decide +kernel⟩⟩
set_option maxRecDepth 100000 in
theorem ckX6_188 : CkV RX6 188 yX1_rowAheadOf cX1_rowAheadOf 2 (some .int) 1 := ⟨in_p [.methodLink RX6 188 yX1_rowAheadOf, .instanceMethod yX1_rowAheadOf, .selects yX1_rowAheadOf.cls yX1_rowAheadOf yX1_rowAheadOf, .initialized yX1_rowAheadOf.cls, .code yX1_rowAheadOf cX1_rowAheadOf 2 (some .int)] [571, 572, 573, 55, 574] rfl (by decide +kernel), ⟨by decide +kernel, by decide +kernel, by decide +kernel⟩⟩
set_option maxRecDepth 100000 in
theorem ckX6_191 : CkV RX6 191 yX3_wantedOf cX3_wantedOf 5 (some .int) 2 := ⟨in_p [.methodLink RX6 191 yX3_wantedOf, .instanceMethod yX3_wantedOf, .selects yX3_wantedOf.cls yX3_wantedOf yX3_wantedOf, .initialized yX3_wantedOf.cls, .code yX3_wantedOf cX3_wantedOf 5 (some .int)] [579, 403, 404, 50, 405] rfl (by decide +kernel), ⟨by decide +kernel, by decide +kernel, by decide +kernel⟩⟩
set_option maxRecDepth 100000 in
theorem ckX6_194 : CkV RX6 194 yX4_sungAt cX4_sungAt 2 (some .int) 1 := ⟨in_p [.methodLink RX6 194 yX4_sungAt, .instanceMethod yX4_sungAt, .selects yX4_sungAt.cls yX4_sungAt yX4_sungAt, .initialized yX4_sungAt.cls, .code yX4_sungAt cX4_sungAt 2 (some .int)] [584, 399, 400, 49, 401] rfl (by decide +kernel), ⟨by decide +kernel, by decide +kernel, by decide +kernel⟩⟩
set_option maxRecDepth 100000 in
theorem maX6_197 : ∀ w ∈ ([.methodLink RX6 197 Lib.Math.min.name, .static Lib.Math.min.name, .initialized "java/lang/Math", .code Lib.Math.min.name Lib.Math.min.code 2 (some .int)] : List Cond), w ∈ gtb := in_p [.methodLink RX6 197 Lib.Math.min.name, .static Lib.Math.min.name, .initialized "java/lang/Math", .code Lib.Math.min.name Lib.Math.min.code 2 (some .int)] [589, 423, 57, 424] rfl (by decide +kernel)
set_option maxRecDepth 100000 in
theorem maX6_202 : ∀ w ∈ ([.methodLink RX6 202 Lib.Math.max.name, .static Lib.Math.max.name, .initialized "java/lang/Math", .code Lib.Math.max.name Lib.Math.max.code 2 (some .int)] : List Cond), w ∈ gtb := in_p [.methodLink RX6 202 Lib.Math.max.name, .static Lib.Math.max.name, .initialized "java/lang/Math", .code Lib.Math.max.name Lib.Math.max.code 2 (some .int)] [590, 476, 57, 477] rfl (by decide +kernel)
set_option maxRecDepth 100000 in
theorem ckX6_205 : CkV RX6 205 yX3_phraseCount cX3_phraseCount 1 (some .int) 0 := ⟨in_p [.methodLink RX6 205 yX3_phraseCount, .instanceMethod yX3_phraseCount, .selects yX3_phraseCount.cls yX3_phraseCount yX3_phraseCount, .initialized yX3_phraseCount.cls, .code yX3_phraseCount cX3_phraseCount 1 (some .int)] [595, 284, 285, 50, 286] rfl (by decide +kernel), ⟨by decide +kernel, by decide +kernel, by decide +kernel⟩⟩
set_option maxRecDepth 100000 in
theorem ckX6_208 : CkV RX6 208 yX3_firstOfPhrase cX3_firstOfPhrase 3 (some .int) 1 := ⟨in_p [.methodLink RX6 208 yX3_firstOfPhrase, .instanceMethod yX3_firstOfPhrase, .selects yX3_firstOfPhrase.cls yX3_firstOfPhrase yX3_firstOfPhrase, .initialized yX3_firstOfPhrase.cls, .code yX3_firstOfPhrase cX3_firstOfPhrase 3 (some .int)] [596, 597, 598, 50, 599] rfl (by decide +kernel), ⟨by decide +kernel, by decide +kernel, by decide +kernel⟩⟩
set_option maxRecDepth 100000 in
theorem ckX6_211 : CkV RX6 211 yX3_sizeOfPhrase cX3_sizeOfPhrase 4 (some .int) 1 := ⟨in_p [.methodLink RX6 211 yX3_sizeOfPhrase, .instanceMethod yX3_sizeOfPhrase, .selects yX3_sizeOfPhrase.cls yX3_sizeOfPhrase yX3_sizeOfPhrase, .initialized yX3_sizeOfPhrase.cls, .code yX3_sizeOfPhrase cX3_sizeOfPhrase 4 (some .int)] [600, 480, 481, 50, 482] rfl (by decide +kernel), ⟨by decide +kernel, by decide +kernel, by decide +kernel⟩⟩
set_option maxRecDepth 100000 in
theorem ckX6_214 : CkV RX6 214 yX1_phraseHitsOf cX1_phraseHitsOf 2 (some .int) 1 := ⟨in_p [.methodLink RX6 214 yX1_phraseHitsOf, .instanceMethod yX1_phraseHitsOf, .selects yX1_phraseHitsOf.cls yX1_phraseHitsOf yX1_phraseHitsOf, .initialized yX1_phraseHitsOf.cls, .code yX1_phraseHitsOf cX1_phraseHitsOf 2 (some .int)] [601, 602, 603, 55, 604] rfl (by decide +kernel), ⟨by decide +kernel, by decide +kernel, by decide +kernel⟩⟩
set_option maxRecDepth 100000 in
theorem ckX6_217 : CkV RX6 217 yX1_phrasePointsOf cX1_phrasePointsOf 2 (some .int) 1 := ⟨in_p [.methodLink RX6 217 yX1_phrasePointsOf, .instanceMethod yX1_phrasePointsOf, .selects yX1_phrasePointsOf.cls yX1_phrasePointsOf yX1_phrasePointsOf, .initialized yX1_phrasePointsOf.cls, .code yX1_phrasePointsOf cX1_phrasePointsOf 2 (some .int)] [605, 606, 607, 55, 608] rfl (by decide +kernel), ⟨by decide +kernel, by decide +kernel, by decide +kernel⟩⟩
set_option maxRecDepth 100000 in
theorem ckX6_220 : CkV RX6 220 yX1_longestRowOf cX1_longestRowOf 2 (some .int) 1 := ⟨in_p [.methodLink RX6 220 yX1_longestRowOf, .instanceMethod yX1_longestRowOf, .selects yX1_longestRowOf.cls yX1_longestRowOf yX1_longestRowOf, .initialized yX1_longestRowOf.cls, .code yX1_longestRowOf cX1_longestRowOf 2 (some .int)] [609, 610, 611, 55, 612] rfl (by decide +kernel), ⟨by decide +kernel, by decide +kernel, by decide +kernel⟩⟩
set_option maxRecDepth 100000 in
theorem ckX6_223 : CkV RX6 223 yX3_ticks cX3_ticks 1 (some .int) 0 := ⟨in_p [.methodLink RX6 223 yX3_ticks, .instanceMethod yX3_ticks, .selects yX3_ticks.cls yX3_ticks yX3_ticks, .initialized yX3_ticks.cls, .code yX3_ticks cX3_ticks 1 (some .int)] [617, 246, 247, 50, 248] rfl (by decide +kernel), ⟨by decide +kernel, by decide +kernel, by decide +kernel⟩⟩
set_option maxRecDepth 100000 in
theorem ckX6_226 : CkV RX6 226 yX4_onsets cX4_onsets 3 (some .int) 0 := ⟨in_p [.methodLink RX6 226 yX4_onsets, .instanceMethod yX4_onsets, .selects yX4_onsets.cls yX4_onsets yX4_onsets, .initialized yX4_onsets.cls, .code yX4_onsets cX4_onsets 3 (some .int)] [618, 619, 620, 49, 621] rfl (by decide +kernel), ⟨by decide +kernel, by decide +kernel, by decide +kernel⟩⟩
set_option maxRecDepth 100000 in
theorem ckX6_229 : CkV RX6 229 yX6_pointsOf cX6_pointsOf 2 (some .int) 1 := ⟨in_p [.methodLink RX6 229 yX6_pointsOf, .instanceMethod yX6_pointsOf, .selects yX6_pointsOf.cls yX6_pointsOf yX6_pointsOf, .initialized yX6_pointsOf.cls, .code yX6_pointsOf cX6_pointsOf 2 (some .int)] [622, 624, 10, 48, 625] rfl (by decide +kernel), ⟨by decide +kernel, by decide +kernel, by decide +kernel⟩⟩
set_option maxRecDepth 100000 in
theorem ckX6_231 : CkV RX6 231 yX6_mostPoints cX6_mostPoints 1 (some .int) 0 := ⟨in_p [.methodLink RX6 231 yX6_mostPoints, .instanceMethod yX6_mostPoints, .selects yX6_mostPoints.cls yX6_mostPoints yX6_mostPoints, .initialized yX6_mostPoints.cls, .code yX6_mostPoints cX6_mostPoints 1 (some .int)] [626, 628, 11, 48, 629] rfl (by decide +kernel), ⟨by decide +kernel, by decide +kernel, by decide +kernel⟩⟩
set_option maxRecDepth 100000 in
theorem ckX6_234 : CkV RX6 234 yX5_size cX5_size 1 (some .int) 0 := ⟨in_p [.methodLink RX6 234 yX5_size, .instanceMethod yX5_size, .selects yX5_size.cls yX5_size yX5_size, .initialized yX5_size.cls, .code yX5_size cX5_size 1 (some .int)] [635, 339, 340, 53, 341] rfl (by decide +kernel), ⟨by decide +kernel, by decide +kernel, by decide +kernel⟩⟩
set_option maxRecDepth 100000 in
theorem ckX6_235 : CkV RX6 235 yX6_pointsIfShifted cX6_pointsIfShifted 3 (some .int) 2 := ⟨in_p [.methodLink RX6 235 yX6_pointsIfShifted, .instanceMethod yX6_pointsIfShifted, .selects yX6_pointsIfShifted.cls yX6_pointsIfShifted yX6_pointsIfShifted, .initialized yX6_pointsIfShifted.cls, .code yX6_pointsIfShifted cX6_pointsIfShifted 3 (some .int)] [640, 642, 12, 48, 643] rfl (by decide +kernel), ⟨by decide +kernel, by decide +kernel, by decide +kernel⟩⟩
set_option maxRecDepth 100000 in
theorem gsX6_238 : Cond.fieldLink RX6 238 "SungSlides" (stN 1) "[I" ∈ gtb := in_p [Cond.fieldLink RX6 238 "SungSlides" (stN 1) "[I"] [353] rfl (by decide +kernel) _ List.mem_cons_self
set_option maxRecDepth 100000 in
theorem gsX6_242 : Cond.fieldLink RX6 242 "SungSlides" (stN 2) "[I" ∈ gtb := in_p [Cond.fieldLink RX6 242 "SungSlides" (stN 2) "[I"] [355] rfl (by decide +kernel) _ List.mem_cons_self
set_option maxRecDepth 100000 in
theorem foX6_245 : Fok RX6 245 1 10 false := ⟨RX1, TX1, 12, rfl, by decide, in_u1, in_p [Cond.fieldLink RX6 245 RX1 "hits" "I"] [181] (by decide +kernel) (by decide +kernel) _ List.mem_cons_self, rfl, rfl, by decide⟩
set_option maxRecDepth 100000 in
theorem foX6_248 : Fok RX6 248 1 11 false := ⟨RX1, TX1, 12, rfl, by decide, in_u1, in_p [Cond.fieldLink RX6 248 RX1 "points" "I"] [183] (by decide +kernel) (by decide +kernel) _ List.mem_cons_self, rfl, rfl, by decide⟩
set_option maxRecDepth 100000 in
theorem ckX6_251 : CkV RX6 251 yX1_judgePerfect cX1_judgePerfect 4 none 1 := ⟨in_p [.methodLink RX6 251 yX1_judgePerfect, .instanceMethod yX1_judgePerfect, .selects yX1_judgePerfect.cls yX1_judgePerfect yX1_judgePerfect, .initialized yX1_judgePerfect.cls, .code yX1_judgePerfect cX1_judgePerfect 4 none] [630, 631, 632, 55, 633] rfl (by decide +kernel), ⟨by decide +kernel, by decide +kernel, by decide +kernel⟩⟩
set_option maxRecDepth 100000 in
theorem ckX6_254 : CkV RX6 254 yX4_voiceShifted cX4_voiceShifted 6 none 3 := ⟨in_p [.methodLink RX6 254 yX4_voiceShifted, .instanceMethod yX4_voiceShifted, .selects yX4_voiceShifted.cls yX4_voiceShifted yX4_voiceShifted, .initialized yX4_voiceShifted.cls, .code yX4_voiceShifted cX4_voiceShifted 6 none] [644, 645, 646, 49, 647] rfl (by decide +kernel), ⟨by decide +kernel, by decide +kernel, by decide +kernel⟩⟩
set_option maxRecDepth 100000 in
theorem oiX3_3 : ∀ w ∈ ([.methodLink RX3 3 Lib.objectInit, .instanceMethod Lib.objectInit, .code Lib.objectInit ⟨#[0xb1]⟩ 1 none] : List Cond), w ∈ gtb := in_p [.methodLink RX3 3 Lib.objectInit, .instanceMethod Lib.objectInit, .code Lib.objectInit ⟨#[0xb1]⟩ 1 none] [77, 64, 65] rfl (by decide +kernel)
set_option maxRecDepth 100000 in
theorem ac_int : Cond.arrayClass .int ∈ gtb := in_p [Cond.arrayClass .int] [97] rfl (by decide +kernel) _ List.mem_cons_self
set_option maxRecDepth 100000 in
theorem poX3_9 : Pok RX3 9 3 0 true (.array .int) true := ⟨RX3, TX3, 6, tyX3, rfl, by decide, in_u3, tyX3_ok, nmX3, in_p [Cond.fieldLink RX3 9 RX3 "beginnings" "[I"] [78] (by decide +kernel) (by decide +kernel) _ List.mem_cons_self, rfl, rfl, by decide +kernel, rfl, by decide, fun _ => rfl⟩
set_option maxRecDepth 100000 in
theorem poX3_15 : Pok RX3 15 3 1 true (.array .int) true := ⟨RX3, TX3, 6, tyX3, rfl, by decide, in_u3, tyX3_ok, nmX3, in_p [Cond.fieldLink RX3 15 RX3 "lengths" "[I"] [79] (by decide +kernel) (by decide +kernel) _ List.mem_cons_self, rfl, rfl, by decide +kernel, rfl, by decide, fun _ => rfl⟩
set_option maxRecDepth 100000 in
theorem poX3_18 : Pok RX3 18 3 2 true (.array .int) true := ⟨RX3, TX3, 6, tyX3, rfl, by decide, in_u3, tyX3_ok, nmX3, in_p [Cond.fieldLink RX3 18 RX3 "pitches" "[I"] [80] (by decide +kernel) (by decide +kernel) _ List.mem_cons_self, rfl, rfl, by decide +kernel, rfl, by decide, fun _ => rfl⟩
set_option maxRecDepth 100000 in
theorem poX3_21 : Pok RX3 21 3 3 true (.array .int) true := ⟨RX3, TX3, 6, tyX3, rfl, by decide, in_u3, tyX3_ok, nmX3, in_p [Cond.fieldLink RX3 21 RX3 "endPitches" "[I"] [81] (by decide +kernel) (by decide +kernel) _ List.mem_cons_self, rfl, rfl, by decide +kernel, rfl, by decide, fun _ => rfl⟩
set_option maxRecDepth 100000 in
theorem poX3_24 : Pok RX3 24 3 4 true (.array .int) true := ⟨RX3, TX3, 6, tyX3, rfl, by decide, in_u3, tyX3_ok, nmX3, in_p [Cond.fieldLink RX3 24 RX3 "phrases" "[I"] [82] (by decide +kernel) (by decide +kernel) _ List.mem_cons_self, rfl, rfl, by decide +kernel, rfl, by decide, fun _ => rfl⟩
set_option maxRecDepth 100000 in
theorem poX3_27 : Pok RX3 27 3 5 false .int false := ⟨RX3, TX3, 6, tyX3, rfl, by decide, in_u3, tyX3_ok, nmX3, in_p [Cond.fieldLink RX3 27 RX3 "count" "I"] [83] (by decide +kernel) (by decide +kernel) _ List.mem_cons_self, rfl, rfl, by decide +kernel, rfl, by decide, fun _ => rfl⟩
set_option maxRecDepth 100000 in
theorem foX3_27 : Fok RX3 27 3 5 false := ⟨RX3, TX3, 6, rfl, by decide, in_u3, in_p [Cond.fieldLink RX3 27 RX3 "count" "I"] [83] (by decide +kernel) (by decide +kernel) _ List.mem_cons_self, rfl, rfl, by decide⟩
set_option maxRecDepth 100000 in
theorem ckX3_31 : CkV RX3 31 yX3_has cX3_has 2 (some .boolean) 1 := ⟨in_p [.methodLink RX3 31 yX3_has, .instanceMethod yX3_has, .selects yX3_has.cls yX3_has yX3_has, .initialized yX3_has.cls, .code yX3_has cX3_has 2 (some .boolean)] [253, 254, 255, 50, 256] rfl (by decide +kernel), ⟨by decide +kernel, by decide +kernel, by decide +kernel⟩⟩
set_option maxRecDepth 100000 in
theorem foX3_9 : Fok RX3 9 3 0 true := ⟨RX3, TX3, 6, rfl, by decide, in_u3, in_p [Cond.fieldLink RX3 9 RX3 "beginnings" "[I"] [78] (by decide +kernel) (by decide +kernel) _ List.mem_cons_self, rfl, rfl, by decide⟩
set_option maxRecDepth 100000 in
theorem foX3_15 : Fok RX3 15 3 1 true := ⟨RX3, TX3, 6, rfl, by decide, in_u3, in_p [Cond.fieldLink RX3 15 RX3 "lengths" "[I"] [79] (by decide +kernel) (by decide +kernel) _ List.mem_cons_self, rfl, rfl, by decide⟩
set_option maxRecDepth 100000 in
theorem foX3_18 : Fok RX3 18 3 2 true := ⟨RX3, TX3, 6, rfl, by decide, in_u3, in_p [Cond.fieldLink RX3 18 RX3 "pitches" "[I"] [80] (by decide +kernel) (by decide +kernel) _ List.mem_cons_self, rfl, rfl, by decide⟩
set_option maxRecDepth 100000 in
theorem foX3_21 : Fok RX3 21 3 3 true := ⟨RX3, TX3, 6, rfl, by decide, in_u3, in_p [Cond.fieldLink RX3 21 RX3 "endPitches" "[I"] [81] (by decide +kernel) (by decide +kernel) _ List.mem_cons_self, rfl, rfl, by decide⟩
set_option maxRecDepth 100000 in
theorem foX3_24 : Fok RX3 24 3 4 true := ⟨RX3, TX3, 6, rfl, by decide, in_u3, in_p [Cond.fieldLink RX3 24 RX3 "phrases" "[I"] [82] (by decide +kernel) (by decide +kernel) _ List.mem_cons_self, rfl, rfl, by decide⟩
set_option maxRecDepth 100000 in
theorem ckX3_35 : CkV RX3 35 yX3_beginningOf cX3_beginningOf 2 (some .int) 1 := ⟨in_p [.methodLink RX3 35 yX3_beginningOf, .instanceMethod yX3_beginningOf, .selects yX3_beginningOf.cls yX3_beginningOf yX3_beginningOf, .initialized yX3_beginningOf.cls, .code yX3_beginningOf cX3_beginningOf 2 (some .int)] [249, 250, 251, 50, 252] rfl (by decide +kernel), ⟨by decide +kernel, by decide +kernel, by decide +kernel⟩⟩
set_option maxRecDepth 100000 in
theorem ckX3_39 : CkV RX3 39 yX3_lengthOf cX3_lengthOf 2 (some .int) 1 := ⟨in_p [.methodLink RX3 39 yX3_lengthOf, .instanceMethod yX3_lengthOf, .selects yX3_lengthOf.cls yX3_lengthOf yX3_lengthOf, .initialized yX3_lengthOf.cls, .code yX3_lengthOf cX3_lengthOf 2 (some .int)] [257, 258, 259, 50, 260] rfl (by decide +kernel), ⟨by decide +kernel, by decide +kernel, by decide +kernel⟩⟩
set_option maxRecDepth 100000 in
theorem ckX3_42 : CkV RX3 42 yX3_phraseOf cX3_phraseOf 2 (some .int) 1 := ⟨in_p [.methodLink RX3 42 yX3_phraseOf, .instanceMethod yX3_phraseOf, .selects yX3_phraseOf.cls yX3_phraseOf yX3_phraseOf, .initialized yX3_phraseOf.cls, .code yX3_phraseOf cX3_phraseOf 2 (some .int)] [287, 288, 289, 50, 290] rfl (by decide +kernel), ⟨by decide +kernel, by decide +kernel, by decide +kernel⟩⟩
set_option maxRecDepth 100000 in
theorem ckX3_45 : CkV RX3 45 yX3_pitchOf cX3_pitchOf 2 (some .int) 1 := ⟨in_p [.methodLink RX3 45 yX3_pitchOf, .instanceMethod yX3_pitchOf, .selects yX3_pitchOf.cls yX3_pitchOf yX3_pitchOf, .initialized yX3_pitchOf.cls, .code yX3_pitchOf cX3_pitchOf 2 (some .int)] [406, 407, 408, 50, 409] rfl (by decide +kernel), ⟨by decide +kernel, by decide +kernel, by decide +kernel⟩⟩
set_option maxRecDepth 100000 in
theorem ckX3_48 : CkV RX3 48 yX3_endPitchOf cX3_endPitchOf 2 (some .int) 1 := ⟨in_p [.methodLink RX3 48 yX3_endPitchOf, .instanceMethod yX3_endPitchOf, .selects yX3_endPitchOf.cls yX3_endPitchOf yX3_endPitchOf, .initialized yX3_endPitchOf.cls, .code yX3_endPitchOf cX3_endPitchOf 2 (some .int)] [410, 411, 412, 50, 413] rfl (by decide +kernel), ⟨by decide +kernel, by decide +kernel, by decide +kernel⟩⟩
set_option maxRecDepth 100000 in
theorem ckX3_51 : CkV RX3 51 yX3_ticks cX3_ticks 1 (some .int) 0 := ⟨in_p [.methodLink RX3 51 yX3_ticks, .instanceMethod yX3_ticks, .selects yX3_ticks.cls yX3_ticks yX3_ticks, .initialized yX3_ticks.cls, .code yX3_ticks cX3_ticks 1 (some .int)] [245, 246, 247, 50, 248] rfl (by decide +kernel), ⟨by decide +kernel, by decide +kernel, by decide +kernel⟩⟩
set_option maxRecDepth 100000 in
theorem ckX3_55 : CkV RX3 55 yX3_phraseCount cX3_phraseCount 1 (some .int) 0 := ⟨in_p [.methodLink RX3 55 yX3_phraseCount, .instanceMethod yX3_phraseCount, .selects yX3_phraseCount.cls yX3_phraseCount yX3_phraseCount, .initialized yX3_phraseCount.cls, .code yX3_phraseCount cX3_phraseCount 1 (some .int)] [283, 284, 285, 50, 286] rfl (by decide +kernel), ⟨by decide +kernel, by decide +kernel, by decide +kernel⟩⟩
set_option maxRecDepth 100000 in
theorem coX3_58 : ∀ w ∈ ([.methodLink RX3 58 arraycopyName, .native arraycopyName, .static arraycopyName, .initialized "java/lang/System"] : List Cond), w ∈ gtb := in_p [.methodLink RX3 58 arraycopyName, .native arraycopyName, .static arraycopyName, .initialized "java/lang/System"] [278, 102, 101, 51] rfl (by decide +kernel)
set_option maxRecDepth 100000 in
theorem oiX4_3 : ∀ w ∈ ([.methodLink RX4 3 Lib.objectInit, .instanceMethod Lib.objectInit, .code Lib.objectInit ⟨#[0xb1]⟩ 1 none] : List Cond), w ∈ gtb := in_p [.methodLink RX4 3 Lib.objectInit, .instanceMethod Lib.objectInit, .code Lib.objectInit ⟨#[0xb1]⟩ 1 none] [71, 64, 65] rfl (by decide +kernel)
set_option maxRecDepth 100000 in
theorem ckX4_11 : CkIN RX4 11 "SungSlides" yX3_init cX3_init 1 0 := ⟨in_p [.instanceMethod yX3_init, .initialized yX3_init.cls, .code yX3_init cX3_init 1 none] [75, 50, 76] rfl (by decide +kernel), rfl, ⟨by decide +kernel, by decide +kernel, by decide +kernel⟩, in_n _ 74 rfl rfl⟩
set_option maxRecDepth 100000 in
theorem noX4_9 : Nok RX4 9 3 := ⟨RX3, TX3, 6, tyX3, rfl, in_u3, tyX3_ok, in_p [Cond.classLink RX4 9 RX3] [72] rfl (by decide +kernel) _ List.mem_cons_self, in_p [Cond.instantiable RX3 6] [73] rfl (by decide +kernel) _ List.mem_cons_self, in_p [Cond.initialized RX3] [50] rfl (by decide +kernel) _ List.mem_cons_self, by decide, rfl, by decide +kernel⟩
set_option maxRecDepth 100000 in
theorem poX4_12 : Pok RX4 12 4 0 true (.object "SungSlides$Song") true := ⟨RX4, TX4, 3, tyX4, rfl, by decide, in_u4, tyX4_ok, nmX4, in_p [Cond.fieldLink RX4 12 RX4 "song" "LSungSlides$Song;"] [103] (by decide +kernel) (by decide +kernel) _ List.mem_cons_self, rfl, rfl, by decide +kernel, rfl, by decide, fun _ => rfl⟩
set_option maxRecDepth 100000 in
theorem poX4_18 : Pok RX4 18 4 1 true (.array .int) true := ⟨RX4, TX4, 3, tyX4, rfl, by decide, in_u4, tyX4_ok, nmX4, in_p [Cond.fieldLink RX4 18 RX4 "settings" "[I"] [106] (by decide +kernel) (by decide +kernel) _ List.mem_cons_self, rfl, rfl, by decide +kernel, rfl, by decide, fun _ => rfl⟩
set_option maxRecDepth 100000 in
theorem poX4_22 : Pok RX4 22 4 2 true (.array .int) true := ⟨RX4, TX4, 3, tyX4, rfl, by decide, in_u4, tyX4_ok, nmX4, in_p [Cond.fieldLink RX4 22 RX4 "pitches" "[I"] [107] (by decide +kernel) (by decide +kernel) _ List.mem_cons_self, rfl, rfl, by decide +kernel, rfl, by decide, fun _ => rfl⟩
set_option maxRecDepth 100000 in
theorem foX4_18 : Fok RX4 18 4 1 true := ⟨RX4, TX4, 3, rfl, by decide, in_u4, in_p [Cond.fieldLink RX4 18 RX4 "settings" "[I"] [106] (by decide +kernel) (by decide +kernel) _ List.mem_cons_self, rfl, rfl, by decide⟩
set_option maxRecDepth 100000 in
theorem coX4_28 : ∀ w ∈ ([.methodLink RX4 28 arraycopyName, .native arraycopyName, .static arraycopyName, .initialized "java/lang/System"] : List Cond), w ∈ gtb := in_p [.methodLink RX4 28 arraycopyName, .native arraycopyName, .static arraycopyName, .initialized "java/lang/System"] [100, 102, 101, 51] rfl (by decide +kernel)
set_option maxRecDepth 100000 in
theorem gnX4_25 : Cond.fieldLinkNest RX4 25 "SungSlides" (stN 0) "[I" "[I" ∈ nestW := in_n _ 98 rfl rfl
set_option maxRecDepth 100000 in
theorem foX4_22 : Fok RX4 22 4 2 true := ⟨RX4, TX4, 3, rfl, by decide, in_u4, in_p [Cond.fieldLink RX4 22 RX4 "pitches" "[I"] [107] (by decide +kernel) (by decide +kernel) _ List.mem_cons_self, rfl, rfl, by decide⟩
set_option maxRecDepth 100000 in
theorem foX4_12 : Fok RX4 12 4 0 true := ⟨RX4, TX4, 3, rfl, by decide, in_u4, in_p [Cond.fieldLink RX4 12 RX4 "song" "LSungSlides$Song;"] [103] (by decide +kernel) (by decide +kernel) _ List.mem_cons_self, rfl, rfl, by decide⟩
set_option maxRecDepth 100000 in
theorem ckX4_34 : CkV RX4 34 yX3_copyFrom cX3_copyFrom 2 none 1 := ⟨in_p [.methodLink RX4 34 yX3_copyFrom, .instanceMethod yX3_copyFrom, .selects yX3_copyFrom.cls yX3_copyFrom yX3_copyFrom, .initialized yX3_copyFrom.cls, .code yX3_copyFrom cX3_copyFrom 2 none] [274, 275, 276, 50, 277] rfl (by decide +kernel), ⟨by decide +kernel, by decide +kernel, by decide +kernel⟩⟩
set_option maxRecDepth 100000 in
theorem ckX4_38 : CkN RX4 38 "SungSlides" yX6_isWithin cX6_isWithin 3 (some .boolean) 3 := ⟨in_p [.static yX6_isWithin, .initialized yX6_isWithin.cls, .code yX6_isWithin cX6_isWithin 3 (some .boolean)] [239, 48, 240] rfl (by decide +kernel), ⟨by decide +kernel, by decide +kernel, by decide +kernel⟩, in_n _ 380 rfl rfl⟩
set_option maxRecDepth 100000 in
theorem ckX4_42 : CkV RX4 42 yX4_voiceAt cX4_voiceAt 3 none 2 := ⟨in_p [.methodLink RX4 42 yX4_voiceAt, .instanceMethod yX4_voiceAt, .selects yX4_voiceAt.cls yX4_voiceAt yX4_voiceAt, .initialized yX4_voiceAt.cls, .code yX4_voiceAt cX4_voiceAt 3 none] [376, 377, 378, 49, 379] rfl (by decide +kernel), ⟨by decide +kernel, by decide +kernel, by decide +kernel⟩⟩
set_option maxRecDepth 100000 in
theorem ckX4_46 : CkV RX4 46 yX3_beginningOf cX3_beginningOf 2 (some .int) 1 := ⟨in_p [.methodLink RX4 46 yX3_beginningOf, .instanceMethod yX3_beginningOf, .selects yX3_beginningOf.cls yX3_beginningOf yX3_beginningOf, .initialized yX3_beginningOf.cls, .code yX3_beginningOf cX3_beginningOf 2 (some .int)] [503, 250, 251, 50, 252] rfl (by decide +kernel), ⟨by decide +kernel, by decide +kernel, by decide +kernel⟩⟩
set_option maxRecDepth 100000 in
theorem ckX4_50 : CkV RX4 50 yX3_lengthOf cX3_lengthOf 2 (some .int) 1 := ⟨in_p [.methodLink RX4 50 yX3_lengthOf, .instanceMethod yX3_lengthOf, .selects yX3_lengthOf.cls yX3_lengthOf yX3_lengthOf, .initialized yX3_lengthOf.cls, .code yX3_lengthOf cX3_lengthOf 2 (some .int)] [504, 258, 259, 50, 260] rfl (by decide +kernel), ⟨by decide +kernel, by decide +kernel, by decide +kernel⟩⟩
set_option maxRecDepth 100000 in
theorem ckX4_53 : CkV RX4 53 yX3_wantedOf cX3_wantedOf 5 (some .int) 2 := ⟨in_p [.methodLink RX4 53 yX3_wantedOf, .instanceMethod yX3_wantedOf, .selects yX3_wantedOf.cls yX3_wantedOf yX3_wantedOf, .initialized yX3_wantedOf.cls, .code yX3_wantedOf cX3_wantedOf 5 (some .int)] [505, 403, 404, 50, 405] rfl (by decide +kernel), ⟨by decide +kernel, by decide +kernel, by decide +kernel⟩⟩
set_option maxRecDepth 100000 in
theorem ckX4_57 : CkV RX4 57 yX4_sungAt cX4_sungAt 2 (some .int) 1 := ⟨in_p [.methodLink RX4 57 yX4_sungAt, .instanceMethod yX4_sungAt, .selects yX4_sungAt.cls yX4_sungAt yX4_sungAt, .initialized yX4_sungAt.cls, .code yX4_sungAt cX4_sungAt 2 (some .int)] [436, 399, 400, 49, 401] rfl (by decide +kernel), ⟨by decide +kernel, by decide +kernel, by decide +kernel⟩⟩
set_option maxRecDepth 100000 in
theorem ckX4_60 : CkV RX4 60 yX4_isOnset cX4_isOnset 2 (some .boolean) 1 := ⟨in_p [.methodLink RX4 60 yX4_isOnset, .instanceMethod yX4_isOnset, .selects yX4_isOnset.cls yX4_isOnset yX4_isOnset, .initialized yX4_isOnset.cls, .code yX4_isOnset cX4_isOnset 2 (some .boolean)] [432, 433, 434, 49, 435] rfl (by decide +kernel), ⟨by decide +kernel, by decide +kernel, by decide +kernel⟩⟩
set_option maxRecDepth 100000 in
theorem ckX4_64 : CkV RX4 64 yX4_setting cX4_setting 2 (some .int) 1 := ⟨in_p [.methodLink RX4 64 yX4_setting, .instanceMethod yX4_setting, .selects yX4_setting.cls yX4_setting yX4_setting, .initialized yX4_setting.cls, .code yX4_setting cX4_setting 2 (some .int)] [421, 358, 359, 49, 360] rfl (by decide +kernel), ⟨by decide +kernel, by decide +kernel, by decide +kernel⟩⟩
set_option maxRecDepth 100000 in
theorem maX4_67 : ∀ w ∈ ([.methodLink RX4 67 Lib.Math.abs.name, .static Lib.Math.abs.name, .initialized "java/lang/Math", .code Lib.Math.abs.name Lib.Math.abs.code 1 (some .int)] : List Cond), w ∈ gtb := in_p [.methodLink RX4 67 Lib.Math.abs.name, .static Lib.Math.abs.name, .initialized "java/lang/Math", .code Lib.Math.abs.name Lib.Math.abs.code 1 (some .int)] [418, 419, 57, 420] rfl (by decide +kernel)
set_option maxRecDepth 100000 in
theorem maX4_72 : ∀ w ∈ ([.methodLink RX4 72 Lib.Math.min.name, .static Lib.Math.min.name, .initialized "java/lang/Math", .code Lib.Math.min.name Lib.Math.min.code 2 (some .int)] : List Cond), w ∈ gtb := in_p [.methodLink RX4 72 Lib.Math.min.name, .static Lib.Math.min.name, .initialized "java/lang/Math", .code Lib.Math.min.name Lib.Math.min.code 2 (some .int)] [422, 423, 57, 424] rfl (by decide +kernel)
set_option maxRecDepth 100000 in
theorem oiX1_3 : ∀ w ∈ ([.methodLink RX1 3 Lib.objectInit, .instanceMethod Lib.objectInit, .code Lib.objectInit ⟨#[0xb1]⟩ 1 none] : List Cond), w ∈ gtb := in_p [.methodLink RX1 3 Lib.objectInit, .instanceMethod Lib.objectInit, .code Lib.objectInit ⟨#[0xb1]⟩ 1 none] [169, 64, 65] rfl (by decide +kernel)
set_option maxRecDepth 100000 in
theorem poX1_9 : Pok RX1 9 1 0 true (.array .int) true := ⟨RX1, TX1, 12, tyX1, rfl, by decide, in_u1, tyX1_ok, nmX1, in_p [Cond.fieldLink RX1 9 RX1 "matches" "[I"] [170] (by decide +kernel) (by decide +kernel) _ List.mem_cons_self, rfl, rfl, by decide +kernel, rfl, by decide, fun _ => rfl⟩
set_option maxRecDepth 100000 in
theorem poX1_15 : Pok RX1 15 1 1 true (.array .int) true := ⟨RX1, TX1, 12, tyX1, rfl, by decide, in_u1, tyX1_ok, nmX1, in_p [Cond.fieldLink RX1 15 RX1 "shares" "[I"] [171] (by decide +kernel) (by decide +kernel) _ List.mem_cons_self, rfl, rfl, by decide +kernel, rfl, by decide, fun _ => rfl⟩
set_option maxRecDepth 100000 in
theorem poX1_18 : Pok RX1 18 1 2 true (.array .int) true := ⟨RX1, TX1, 12, tyX1, rfl, by decide, in_u1, tyX1_ok, nmX1, in_p [Cond.fieldLink RX1 18 RX1 "heldLines" "[I"] [172] (by decide +kernel) (by decide +kernel) _ List.mem_cons_self, rfl, rfl, by decide +kernel, rfl, by decide, fun _ => rfl⟩
set_option maxRecDepth 100000 in
theorem poX1_21 : Pok RX1 21 1 3 true (.array .int) true := ⟨RX1, TX1, 12, tyX1, rfl, by decide, in_u1, tyX1_ok, nmX1, in_p [Cond.fieldLink RX1 21 RX1 "onsets" "[I"] [173] (by decide +kernel) (by decide +kernel) _ List.mem_cons_self, rfl, rfl, by decide +kernel, rfl, by decide, fun _ => rfl⟩
set_option maxRecDepth 100000 in
theorem poX1_24 : Pok RX1 24 1 4 true (.array .int) true := ⟨RX1, TX1, 12, tyX1, rfl, by decide, in_u1, tyX1_ok, nmX1, in_p [Cond.fieldLink RX1 24 RX1 "reasons" "[I"] [174] (by decide +kernel) (by decide +kernel) _ List.mem_cons_self, rfl, rfl, by decide +kernel, rfl, by decide, fun _ => rfl⟩
set_option maxRecDepth 100000 in
theorem poX1_27 : Pok RX1 27 1 5 true (.array .int) true := ⟨RX1, TX1, 12, tyX1, rfl, by decide, in_u1, tyX1_ok, nmX1, in_p [Cond.fieldLink RX1 27 RX1 "rowsAhead" "[I"] [175] (by decide +kernel) (by decide +kernel) _ List.mem_cons_self, rfl, rfl, by decide +kernel, rfl, by decide, fun _ => rfl⟩
set_option maxRecDepth 100000 in
theorem poX1_30 : Pok RX1 30 1 6 true (.array .int) true := ⟨RX1, TX1, 12, tyX1, rfl, by decide, in_u1, tyX1_ok, nmX1, in_p [Cond.fieldLink RX1 30 RX1 "syllablePoints" "[I"] [176] (by decide +kernel) (by decide +kernel) _ List.mem_cons_self, rfl, rfl, by decide +kernel, rfl, by decide, fun _ => rfl⟩
set_option maxRecDepth 100000 in
theorem poX1_33 : Pok RX1 33 1 7 true (.array .int) true := ⟨RX1, TX1, 12, tyX1, rfl, by decide, in_u1, tyX1_ok, nmX1, in_p [Cond.fieldLink RX1 33 RX1 "phraseHits" "[I"] [177] (by decide +kernel) (by decide +kernel) _ List.mem_cons_self, rfl, rfl, by decide +kernel, rfl, by decide, fun _ => rfl⟩
set_option maxRecDepth 100000 in
theorem poX1_36 : Pok RX1 36 1 8 true (.array .int) true := ⟨RX1, TX1, 12, tyX1, rfl, by decide, in_u1, tyX1_ok, nmX1, in_p [Cond.fieldLink RX1 36 RX1 "phrasePoints" "[I"] [178] (by decide +kernel) (by decide +kernel) _ List.mem_cons_self, rfl, rfl, by decide +kernel, rfl, by decide, fun _ => rfl⟩
set_option maxRecDepth 100000 in
theorem poX1_39 : Pok RX1 39 1 9 true (.array .int) true := ⟨RX1, TX1, 12, tyX1, rfl, by decide, in_u1, tyX1_ok, nmX1, in_p [Cond.fieldLink RX1 39 RX1 "longestRows" "[I"] [179] (by decide +kernel) (by decide +kernel) _ List.mem_cons_self, rfl, rfl, by decide +kernel, rfl, by decide, fun _ => rfl⟩
set_option maxRecDepth 100000 in
theorem poX1_42 : Pok RX1 42 1 10 false .int false := ⟨RX1, TX1, 12, tyX1, rfl, by decide, in_u1, tyX1_ok, nmX1, in_p [Cond.fieldLink RX1 42 RX1 "hits" "I"] [180] (by decide +kernel) (by decide +kernel) _ List.mem_cons_self, rfl, rfl, by decide +kernel, rfl, by decide, fun _ => rfl⟩
set_option maxRecDepth 100000 in
theorem poX1_46 : Pok RX1 46 1 11 false .int false := ⟨RX1, TX1, 12, tyX1, rfl, by decide, in_u1, tyX1_ok, nmX1, in_p [Cond.fieldLink RX1 46 RX1 "points" "I"] [182] (by decide +kernel) (by decide +kernel) _ List.mem_cons_self, rfl, rfl, by decide +kernel, rfl, by decide, fun _ => rfl⟩
set_option maxRecDepth 100000 in
theorem foX1_49 : Fok RX1 49 4 0 true := ⟨RX4, TX4, 3, rfl, by decide, in_u4, in_p [Cond.fieldLink RX1 49 RX4 "song" "LSungSlides$Song;"] [104] (by decide +kernel) (by decide +kernel) _ List.mem_cons_self, rfl, rfl, by decide⟩
set_option maxRecDepth 100000 in
theorem ckX1_55 : CkV RX1 55 yX3_size cX3_size 1 (some .int) 0 := ⟨in_p [.methodLink RX1 55 yX3_size, .instanceMethod yX3_size, .selects yX3_size.cls yX3_size yX3_size, .initialized yX3_size.cls, .code yX3_size cX3_size 1 (some .int)] [389, 296, 297, 50, 298] rfl (by decide +kernel), ⟨by decide +kernel, by decide +kernel, by decide +kernel⟩⟩
set_option maxRecDepth 100000 in
theorem ckX1_61 : CkV RX1 61 yX1_hear cX1_hear 14 none 2 := ⟨in_p [.methodLink RX1 61 yX1_hear, .instanceMethod yX1_hear, .selects yX1_hear.cls yX1_hear yX1_hear, .initialized yX1_hear.cls, .code yX1_hear cX1_hear 14 none] [390, 392, 5, 55, 393] rfl (by decide +kernel), ⟨by decide +kernel, by decide +kernel, by decide +kernel⟩⟩
set_option maxRecDepth 100000 in
theorem ckX1_65 : CkV RX1 65 yX1_score cX1_score 5 none 1 := ⟨in_p [.methodLink RX1 65 yX1_score, .instanceMethod yX1_score, .selects yX1_score.cls yX1_score yX1_score, .initialized yX1_score.cls, .code yX1_score cX1_score 5 none] [456, 458, 7, 55, 459] rfl (by decide +kernel), ⟨by decide +kernel, by decide +kernel, by decide +kernel⟩⟩
set_option maxRecDepth 100000 in
theorem foX1_9 : Fok RX1 9 1 0 true := ⟨RX1, TX1, 12, rfl, by decide, in_u1, in_p [Cond.fieldLink RX1 9 RX1 "matches" "[I"] [170] (by decide +kernel) (by decide +kernel) _ List.mem_cons_self, rfl, rfl, by decide⟩
set_option maxRecDepth 100000 in
theorem ckX1_69 : CkV RX1 69 yX3_lengthOf cX3_lengthOf 2 (some .int) 1 := ⟨in_p [.methodLink RX1 69 yX3_lengthOf, .instanceMethod yX3_lengthOf, .selects yX3_lengthOf.cls yX3_lengthOf yX3_lengthOf, .initialized yX3_lengthOf.cls, .code yX3_lengthOf cX3_lengthOf 2 (some .int)] [395, 258, 259, 50, 260] rfl (by decide +kernel), ⟨by decide +kernel, by decide +kernel, by decide +kernel⟩⟩
set_option maxRecDepth 100000 in
theorem foX1_15 : Fok RX1 15 1 1 true := ⟨RX1, TX1, 12, rfl, by decide, in_u1, in_p [Cond.fieldLink RX1 15 RX1 "shares" "[I"] [171] (by decide +kernel) (by decide +kernel) _ List.mem_cons_self, rfl, rfl, by decide⟩
set_option maxRecDepth 100000 in
theorem foX1_18 : Fok RX1 18 1 2 true := ⟨RX1, TX1, 12, rfl, by decide, in_u1, in_p [Cond.fieldLink RX1 18 RX1 "heldLines" "[I"] [172] (by decide +kernel) (by decide +kernel) _ List.mem_cons_self, rfl, rfl, by decide⟩
set_option maxRecDepth 100000 in
theorem ckX1_73 : CkV RX1 73 yX4_setting cX4_setting 2 (some .int) 1 := ⟨in_p [.methodLink RX1 73 yX4_setting, .instanceMethod yX4_setting, .selects yX4_setting.cls yX4_setting yX4_setting, .initialized yX4_setting.cls, .code yX4_setting cX4_setting 2 (some .int)] [397, 358, 359, 49, 360] rfl (by decide +kernel), ⟨by decide +kernel, by decide +kernel, by decide +kernel⟩⟩
set_option maxRecDepth 100000 in
theorem ckX1_76 : CkV RX1 76 yX3_barLinesOf cX3_barLinesOf 5 (some .int) 2 := ⟨in_p [.methodLink RX1 76 yX3_barLinesOf, .instanceMethod yX3_barLinesOf, .selects yX3_barLinesOf.cls yX3_barLinesOf yX3_barLinesOf, .initialized yX3_barLinesOf.cls, .code yX3_barLinesOf cX3_barLinesOf 5 (some .int)] [634, 557, 558, 50, 559] rfl (by decide +kernel), ⟨by decide +kernel, by decide +kernel, by decide +kernel⟩⟩
set_option maxRecDepth 100000 in
theorem foX1_21 : Fok RX1 21 1 3 true := ⟨RX1, TX1, 12, rfl, by decide, in_u1, in_p [Cond.fieldLink RX1 21 RX1 "onsets" "[I"] [173] (by decide +kernel) (by decide +kernel) _ List.mem_cons_self, rfl, rfl, by decide⟩
set_option maxRecDepth 100000 in
theorem ckX1_80 : CkV RX1 80 yX3_beginningOf cX3_beginningOf 2 (some .int) 1 := ⟨in_p [.methodLink RX1 80 yX3_beginningOf, .instanceMethod yX3_beginningOf, .selects yX3_beginningOf.cls yX3_beginningOf yX3_beginningOf, .initialized yX3_beginningOf.cls, .code yX3_beginningOf cX3_beginningOf 2 (some .int)] [396, 250, 251, 50, 252] rfl (by decide +kernel), ⟨by decide +kernel, by decide +kernel, by decide +kernel⟩⟩
set_option maxRecDepth 100000 in
theorem foX1_24 : Fok RX1 24 1 4 true := ⟨RX1, TX1, 12, rfl, by decide, in_u1, in_p [Cond.fieldLink RX1 24 RX1 "reasons" "[I"] [174] (by decide +kernel) (by decide +kernel) _ List.mem_cons_self, rfl, rfl, by decide⟩
set_option maxRecDepth 100000 in
theorem ckX1_83 : CkN RX1 83 "SungSlides" yX6_isWithin cX6_isWithin 3 (some .boolean) 3 := ⟨in_p [.static yX6_isWithin, .initialized yX6_isWithin.cls, .code yX6_isWithin cX6_isWithin 3 (some .boolean)] [239, 48, 240] rfl (by decide +kernel), ⟨by decide +kernel, by decide +kernel, by decide +kernel⟩, in_n _ 394 rfl rfl⟩
set_option maxRecDepth 100000 in
theorem ckX1_87 : CkV RX1 87 yX4_sungAt cX4_sungAt 2 (some .int) 1 := ⟨in_p [.methodLink RX1 87 yX4_sungAt, .instanceMethod yX4_sungAt, .selects yX4_sungAt.cls yX4_sungAt yX4_sungAt, .initialized yX4_sungAt.cls, .code yX4_sungAt cX4_sungAt 2 (some .int)] [398, 399, 400, 49, 401] rfl (by decide +kernel), ⟨by decide +kernel, by decide +kernel, by decide +kernel⟩⟩
set_option maxRecDepth 100000 in
theorem ckX1_90 : CkV RX1 90 yX3_wantedOf cX3_wantedOf 5 (some .int) 2 := ⟨in_p [.methodLink RX1 90 yX3_wantedOf, .instanceMethod yX3_wantedOf, .selects yX3_wantedOf.cls yX3_wantedOf yX3_wantedOf, .initialized yX3_wantedOf.cls, .code yX3_wantedOf cX3_wantedOf 5 (some .int)] [402, 403, 404, 50, 405] rfl (by decide +kernel), ⟨by decide +kernel, by decide +kernel, by decide +kernel⟩⟩
set_option maxRecDepth 100000 in
theorem ckX1_93 : CkV RX1 93 yX4_isMatch cX4_isMatch 5 (some .boolean) 2 := ⟨in_p [.methodLink RX1 93 yX4_isMatch, .instanceMethod yX4_isMatch, .selects yX4_isMatch.cls yX4_isMatch yX4_isMatch, .initialized yX4_isMatch.cls, .code yX4_isMatch cX4_isMatch 5 (some .boolean)] [414, 415, 416, 49, 417] rfl (by decide +kernel), ⟨by decide +kernel, by decide +kernel, by decide +kernel⟩⟩
set_option maxRecDepth 100000 in
theorem ckX1_97 : CkS RX1 97 yX1_isBarLine cX1_isBarLine 2 (some .boolean) 2 := ⟨in_p [.methodLink RX1 97 yX1_isBarLine, .static yX1_isBarLine, .initialized RX1, .code yX1_isBarLine cX1_isBarLine 2 (some .boolean)] [425, 426, 55, 427] rfl (by decide +kernel), rfl, ⟨by decide +kernel, by decide +kernel, by decide +kernel⟩⟩
set_option maxRecDepth 100000 in
theorem ckX1_100 : CkV RX1 100 yX4_onsetNear cX4_onsetNear 4 (some .int) 1 := ⟨in_p [.methodLink RX1 100 yX4_onsetNear, .instanceMethod yX4_onsetNear, .selects yX4_onsetNear.cls yX4_onsetNear yX4_onsetNear, .initialized yX4_onsetNear.cls, .code yX4_onsetNear cX4_onsetNear 4 (some .int)] [428, 429, 430, 49, 431] rfl (by decide +kernel), ⟨by decide +kernel, by decide +kernel, by decide +kernel⟩⟩
set_option maxRecDepth 100000 in
theorem ckX1_103 : CkV RX1 103 yX1_reasonFor cX1_reasonFor 4 (some .int) 3 := ⟨in_p [.methodLink RX1 103 yX1_reasonFor, .instanceMethod yX1_reasonFor, .selects yX1_reasonFor.cls yX1_reasonFor yX1_reasonFor, .initialized yX1_reasonFor.cls, .code yX1_reasonFor cX1_reasonFor 4 (some .int)] [437, 439, 6, 55, 440] rfl (by decide +kernel), ⟨by decide +kernel, by decide +kernel, by decide +kernel⟩⟩
set_option maxRecDepth 100000 in
theorem ckX1_107 : CkV RX1 107 yX1_matchesOf cX1_matchesOf 2 (some .int) 1 := ⟨in_p [.methodLink RX1 107 yX1_matchesOf, .instanceMethod yX1_matchesOf, .selects yX1_matchesOf.cls yX1_matchesOf yX1_matchesOf, .initialized yX1_matchesOf.cls, .code yX1_matchesOf cX1_matchesOf 2 (some .int)] [441, 442, 443, 55, 444] rfl (by decide +kernel), ⟨by decide +kernel, by decide +kernel, by decide +kernel⟩⟩
set_option maxRecDepth 100000 in
theorem ckX1_110 : CkV RX1 110 yX1_onsetOf cX1_onsetOf 2 (some .int) 1 := ⟨in_p [.methodLink RX1 110 yX1_onsetOf, .instanceMethod yX1_onsetOf, .selects yX1_onsetOf.cls yX1_onsetOf yX1_onsetOf, .initialized yX1_onsetOf.cls, .code yX1_onsetOf cX1_onsetOf 2 (some .int)] [448, 449, 450, 55, 451] rfl (by decide +kernel), ⟨by decide +kernel, by decide +kernel, by decide +kernel⟩⟩
set_option maxRecDepth 100000 in
theorem ckX1_113 : CkV RX1 113 yX1_shareOf cX1_shareOf 2 (some .int) 1 := ⟨in_p [.methodLink RX1 113 yX1_shareOf, .instanceMethod yX1_shareOf, .selects yX1_shareOf.cls yX1_shareOf yX1_shareOf, .initialized yX1_shareOf.cls, .code yX1_shareOf cX1_shareOf 2 (some .int)] [452, 453, 454, 55, 455] rfl (by decide +kernel), ⟨by decide +kernel, by decide +kernel, by decide +kernel⟩⟩
set_option maxRecDepth 100000 in
theorem ckX1_116 : CkV RX1 116 yX3_phraseOf cX3_phraseOf 2 (some .int) 1 := ⟨in_p [.methodLink RX1 116 yX3_phraseOf, .instanceMethod yX3_phraseOf, .selects yX3_phraseOf.cls yX3_phraseOf yX3_phraseOf, .initialized yX3_phraseOf.cls, .code yX3_phraseOf cX3_phraseOf 2 (some .int)] [460, 288, 289, 50, 290] rfl (by decide +kernel), ⟨by decide +kernel, by decide +kernel, by decide +kernel⟩⟩
set_option maxRecDepth 100000 in
theorem ckX1_119 : CkV RX1 119 yX3_beginsPhrase cX3_beginsPhrase 2 (some .boolean) 1 := ⟨in_p [.methodLink RX1 119 yX3_beginsPhrase, .instanceMethod yX3_beginsPhrase, .selects yX3_beginsPhrase.cls yX3_beginsPhrase yX3_beginsPhrase, .initialized yX3_beginsPhrase.cls, .code yX3_beginsPhrase cX3_beginsPhrase 2 (some .boolean)] [461, 462, 463, 50, 464] rfl (by decide +kernel), ⟨by decide +kernel, by decide +kernel, by decide +kernel⟩⟩
set_option maxRecDepth 100000 in
theorem ckX1_123 : CkV RX1 123 yX1_beginPhrase cX1_beginPhrase 2 none 1 := ⟨in_p [.methodLink RX1 123 yX1_beginPhrase, .instanceMethod yX1_beginPhrase, .selects yX1_beginPhrase.cls yX1_beginPhrase yX1_beginPhrase, .initialized yX1_beginPhrase.cls, .code yX1_beginPhrase cX1_beginPhrase 2 none] [465, 467, 8, 55, 468] rfl (by decide +kernel), ⟨by decide +kernel, by decide +kernel, by decide +kernel⟩⟩
set_option maxRecDepth 100000 in
theorem foX1_27 : Fok RX1 27 1 5 true := ⟨RX1, TX1, 12, rfl, by decide, in_u1, in_p [Cond.fieldLink RX1 27 RX1 "rowsAhead" "[I"] [175] (by decide +kernel) (by decide +kernel) _ List.mem_cons_self, rfl, rfl, by decide⟩
set_option maxRecDepth 100000 in
theorem maX1_127 : ∀ w ∈ ([.methodLink RX1 127 Lib.Math.min.name, .static Lib.Math.min.name, .initialized "java/lang/Math", .code Lib.Math.min.name Lib.Math.min.code 2 (some .int)] : List Cond), w ∈ gtb := in_p [.methodLink RX1 127 Lib.Math.min.name, .static Lib.Math.min.name, .initialized "java/lang/Math", .code Lib.Math.min.name Lib.Math.min.code 2 (some .int)] [469, 423, 57, 424] rfl (by decide +kernel)
set_option maxRecDepth 100000 in
theorem foX1_30 : Fok RX1 30 1 6 true := ⟨RX1, TX1, 12, rfl, by decide, in_u1, in_p [Cond.fieldLink RX1 30 RX1 "syllablePoints" "[I"] [176] (by decide +kernel) (by decide +kernel) _ List.mem_cons_self, rfl, rfl, by decide⟩
set_option maxRecDepth 100000 in
theorem ckX1_132 : CkV RX1 132 yX1_scoreOf cX1_scoreOf 5 (some .int) 2 := ⟨in_p [.methodLink RX1 132 yX1_scoreOf, .instanceMethod yX1_scoreOf, .selects yX1_scoreOf.cls yX1_scoreOf yX1_scoreOf, .initialized yX1_scoreOf.cls, .code yX1_scoreOf cX1_scoreOf 5 (some .int)] [470, 472, 9, 55, 473] rfl (by decide +kernel), ⟨by decide +kernel, by decide +kernel, by decide +kernel⟩⟩
set_option maxRecDepth 100000 in
theorem foX1_36 : Fok RX1 36 1 8 true := ⟨RX1, TX1, 12, rfl, by decide, in_u1, in_p [Cond.fieldLink RX1 36 RX1 "phrasePoints" "[I"] [178] (by decide +kernel) (by decide +kernel) _ List.mem_cons_self, rfl, rfl, by decide⟩
set_option maxRecDepth 100000 in
theorem foX1_33 : Fok RX1 33 1 7 true := ⟨RX1, TX1, 12, rfl, by decide, in_u1, in_p [Cond.fieldLink RX1 33 RX1 "phraseHits" "[I"] [177] (by decide +kernel) (by decide +kernel) _ List.mem_cons_self, rfl, rfl, by decide⟩
set_option maxRecDepth 100000 in
theorem foX1_39 : Fok RX1 39 1 9 true := ⟨RX1, TX1, 12, rfl, by decide, in_u1, in_p [Cond.fieldLink RX1 39 RX1 "longestRows" "[I"] [179] (by decide +kernel) (by decide +kernel) _ List.mem_cons_self, rfl, rfl, by decide⟩
set_option maxRecDepth 100000 in
theorem maX1_136 : ∀ w ∈ ([.methodLink RX1 136 Lib.Math.max.name, .static Lib.Math.max.name, .initialized "java/lang/Math", .code Lib.Math.max.name Lib.Math.max.code 2 (some .int)] : List Cond), w ∈ gtb := in_p [.methodLink RX1 136 Lib.Math.max.name, .static Lib.Math.max.name, .initialized "java/lang/Math", .code Lib.Math.max.name Lib.Math.max.code 2 (some .int)] [475, 476, 57, 477] rfl (by decide +kernel)
set_option maxRecDepth 100000 in
theorem ckX1_139 : CkV RX1 139 yX3_phraseCount cX3_phraseCount 1 (some .int) 0 := ⟨in_p [.methodLink RX1 139 yX3_phraseCount, .instanceMethod yX3_phraseCount, .selects yX3_phraseCount.cls yX3_phraseCount yX3_phraseCount, .initialized yX3_phraseCount.cls, .code yX3_phraseCount cX3_phraseCount 1 (some .int)] [478, 284, 285, 50, 286] rfl (by decide +kernel), ⟨by decide +kernel, by decide +kernel, by decide +kernel⟩⟩
set_option maxRecDepth 100000 in
theorem ckX1_142 : CkV RX1 142 yX3_sizeOfPhrase cX3_sizeOfPhrase 4 (some .int) 1 := ⟨in_p [.methodLink RX1 142 yX3_sizeOfPhrase, .instanceMethod yX3_sizeOfPhrase, .selects yX3_sizeOfPhrase.cls yX3_sizeOfPhrase yX3_sizeOfPhrase, .initialized yX3_sizeOfPhrase.cls, .code yX3_sizeOfPhrase cX3_sizeOfPhrase 4 (some .int)] [479, 480, 481, 50, 482] rfl (by decide +kernel), ⟨by decide +kernel, by decide +kernel, by decide +kernel⟩⟩
set_option maxRecDepth 100000 in
theorem ckX1_145 : CkS RX1 145 yX1_extraOf cX1_extraOf 2 (some .int) 2 := ⟨in_p [.methodLink RX1 145 yX1_extraOf, .static yX1_extraOf, .initialized RX1, .code yX1_extraOf cX1_extraOf 2 (some .int)] [483, 484, 55, 485] rfl (by decide +kernel), rfl, ⟨by decide +kernel, by decide +kernel, by decide +kernel⟩⟩
set_option maxRecDepth 100000 in
theorem foX1_42 : Fok RX1 42 1 10 false := ⟨RX1, TX1, 12, rfl, by decide, in_u1, in_p [Cond.fieldLink RX1 42 RX1 "hits" "I"] [180] (by decide +kernel) (by decide +kernel) _ List.mem_cons_self, rfl, rfl, by decide⟩
set_option maxRecDepth 100000 in
theorem foX1_46 : Fok RX1 46 1 11 false := ⟨RX1, TX1, 12, rfl, by decide, in_u1, in_p [Cond.fieldLink RX1 46 RX1 "points" "I"] [182] (by decide +kernel) (by decide +kernel) _ List.mem_cons_self, rfl, rfl, by decide⟩
set_option maxRecDepth 100000 in
theorem maX1_148 : ∀ w ∈ ([.methodLink RX1 148 Lib.Math.abs.name, .static Lib.Math.abs.name, .initialized "java/lang/Math", .code Lib.Math.abs.name Lib.Math.abs.code 1 (some .int)] : List Cond), w ∈ gtb := in_p [.methodLink RX1 148 Lib.Math.abs.name, .static Lib.Math.abs.name, .initialized "java/lang/Math", .code Lib.Math.abs.name Lib.Math.abs.code 1 (some .int)] [474, 419, 57, 420] rfl (by decide +kernel)
set_option maxRecDepth 100000 in
theorem ckX1_151 : CkS RX1 151 yX1_valueIn cX1_valueIn 2 (some .int) 2 := ⟨in_p [.methodLink RX1 151 yX1_valueIn, .static yX1_valueIn, .initialized RX1, .code yX1_valueIn cX1_valueIn 2 (some .int)] [445, 446, 55, 447] rfl (by decide +kernel), rfl, ⟨by decide +kernel, by decide +kernel, by decide +kernel⟩⟩
set_option maxRecDepth 100000 in
theorem oiX0_3 : ∀ w ∈ ([.methodLink RX0 3 Lib.objectInit, .instanceMethod Lib.objectInit, .code Lib.objectInit ⟨#[0xb1]⟩ 1 none] : List Cond), w ∈ gtb := in_p [.methodLink RX0 3 Lib.objectInit, .instanceMethod Lib.objectInit, .code Lib.objectInit ⟨#[0xb1]⟩ 1 none] [120, 64, 65] rfl (by decide +kernel)
set_option maxRecDepth 100000 in
theorem clX0_9 : Cond.classLink RX0 9 "SungSlides$State" ∈ gtb := in_p [Cond.classLink RX0 9 "SungSlides$State"] [121] rfl (by decide +kernel) _ List.mem_cons_self
set_option maxRecDepth 100000 in
theorem poX0_11 : Pok RX0 11 0 0 true (.array (.object "SungSlides$State")) true := ⟨RX0, TX0, 2, tyX0, rfl, by decide, in_u0, tyX0_ok, nmX0, in_p [Cond.fieldLink RX0 11 RX0 "states" "[LSungSlides$State;"] [124] (by decide +kernel) (by decide +kernel) _ List.mem_cons_self, rfl, rfl, by decide +kernel, rfl, by decide, fun _ => rfl⟩
set_option maxRecDepth 100000 in
theorem poX0_17 : Pok RX0 17 0 1 false .int false := ⟨RX0, TX0, 2, tyX0, rfl, by decide, in_u0, tyX0_ok, nmX0, in_p [Cond.fieldLink RX0 17 RX0 "count" "I"] [125] (by decide +kernel) (by decide +kernel) _ List.mem_cons_self, rfl, rfl, by decide +kernel, rfl, by decide, fun _ => rfl⟩
set_option maxRecDepth 100000 in
theorem foX0_11 : Fok RX0 11 0 0 true := ⟨RX0, TX0, 2, rfl, by decide, in_u0, in_p [Cond.fieldLink RX0 11 RX0 "states" "[LSungSlides$State;"] [124] (by decide +kernel) (by decide +kernel) _ List.mem_cons_self, rfl, rfl, by decide⟩
set_option maxRecDepth 100000 in
theorem ckX0_21 : CkI RX0 21 yX4_init cX4_init 2 0 := ⟨in_p [.methodLink RX0 21 yX4_init, .instanceMethod yX4_init, .initialized yX4_init.cls, .code yX4_init cX4_init 2 none] [123, 69, 49, 70] rfl (by decide +kernel), rfl, ⟨by decide +kernel, by decide +kernel, by decide +kernel⟩⟩
set_option maxRecDepth 100000 in
theorem noX0_9 : Nok RX0 9 4 := ⟨RX4, TX4, 3, tyX4, rfl, in_u4, tyX4_ok, in_p [Cond.classLink RX0 9 RX4] [121] rfl (by decide +kernel) _ List.mem_cons_self, in_p [Cond.instantiable RX4 3] [67] rfl (by decide +kernel) _ List.mem_cons_self, in_p [Cond.initialized RX4] [49] rfl (by decide +kernel) _ List.mem_cons_self, by decide, rfl, by decide +kernel⟩
set_option maxRecDepth 100000 in
theorem foX0_17 : Fok RX0 17 0 1 false := ⟨RX0, TX0, 2, rfl, by decide, in_u0, in_p [Cond.fieldLink RX0 17 RX0 "count" "I"] [125] (by decide +kernel) (by decide +kernel) _ List.mem_cons_self, rfl, rfl, by decide⟩
set_option maxRecDepth 100000 in
theorem ckX0_22 : CkV RX0 22 yX0_dropOldest cX0_dropOldest 3 none 0 := ⟨in_p [.methodLink RX0 22 yX0_dropOldest, .instanceMethod yX0_dropOldest, .selects yX0_dropOldest.cls yX0_dropOldest yX0_dropOldest, .initialized yX0_dropOldest.cls, .code yX0_dropOldest cX0_dropOldest 3 none] [265, 267, 0, 52, 268] rfl (by decide +kernel), ⟨by decide +kernel, by decide +kernel, by decide +kernel⟩⟩
set_option maxRecDepth 100000 in
theorem ckX0_25 : CkN RX0 25 "SungSlides" yX6_isWithin cX6_isWithin 3 (some .boolean) 3 := ⟨in_p [.static yX6_isWithin, .initialized yX6_isWithin.cls, .code yX6_isWithin cX6_isWithin 3 (some .boolean)] [239, 48, 240] rfl (by decide +kernel), ⟨by decide +kernel, by decide +kernel, by decide +kernel⟩, in_n _ 269 rfl rfl⟩
set_option maxRecDepth 100000 in
theorem ckX0_29 : CkV RX0 29 yX4_copyFrom cX4_copyFrom 2 none 1 := ⟨in_p [.methodLink RX0 29 yX4_copyFrom, .instanceMethod yX4_copyFrom, .selects yX4_copyFrom.cls yX4_copyFrom yX4_copyFrom, .initialized yX4_copyFrom.cls, .code yX4_copyFrom cX4_copyFrom 2 none] [270, 271, 272, 49, 273] rfl (by decide +kernel), ⟨by decide +kernel, by decide +kernel, by decide +kernel⟩⟩
set_option maxRecDepth 100000 in
theorem oiX5_3 : ∀ w ∈ ([.methodLink RX5 3 Lib.objectInit, .instanceMethod Lib.objectInit, .code Lib.objectInit ⟨#[0xb1]⟩ 1 none] : List Cond), w ∈ gtb := in_p [.methodLink RX5 3 Lib.objectInit, .instanceMethod Lib.objectInit, .code Lib.objectInit ⟨#[0xb1]⟩ 1 none] [136, 64, 65] rfl (by decide +kernel)
set_option maxRecDepth 100000 in
theorem ac_char : Cond.arrayClass .char ∈ gtb := in_p [Cond.arrayClass .char] [144] rfl (by decide +kernel) _ List.mem_cons_self
set_option maxRecDepth 100000 in
theorem poX5_9 : Pok RX5 9 5 0 true (.array .char) true := ⟨RX5, TX5, 2, tyX5, rfl, by decide, in_u5, tyX5_ok, nmX5, in_p [Cond.fieldLink RX5 9 RX5 "characters" "[C"] [137] (by decide +kernel) (by decide +kernel) _ List.mem_cons_self, rfl, rfl, by decide +kernel, rfl, by decide, fun _ => rfl⟩
set_option maxRecDepth 100000 in
theorem poX5_15 : Pok RX5 15 5 1 false .int false := ⟨RX5, TX5, 2, tyX5, rfl, by decide, in_u5, tyX5_ok, nmX5, in_p [Cond.fieldLink RX5 15 RX5 "count" "I"] [138] (by decide +kernel) (by decide +kernel) _ List.mem_cons_self, rfl, rfl, by decide +kernel, rfl, by decide, fun _ => rfl⟩
set_option maxRecDepth 100000 in
theorem foX5_15 : Fok RX5 15 5 1 false := ⟨RX5, TX5, 2, rfl, by decide, in_u5, in_p [Cond.fieldLink RX5 15 RX5 "count" "I"] [138] (by decide +kernel) (by decide +kernel) _ List.mem_cons_self, rfl, rfl, by decide⟩
set_option maxRecDepth 100000 in
theorem ckX5_19 : CkN RX5 19 "SungSlides" yX6_isWithin cX6_isWithin 3 (some .boolean) 3 := ⟨in_p [.static yX6_isWithin, .initialized yX6_isWithin.cls, .code yX6_isWithin cX6_isWithin 3 (some .boolean)] [239, 48, 240] rfl (by decide +kernel), ⟨by decide +kernel, by decide +kernel, by decide +kernel⟩, in_n _ 327 rfl rfl⟩
set_option maxRecDepth 100000 in
theorem foX5_9 : Fok RX5 9 5 0 true := ⟨RX5, TX5, 2, rfl, by decide, in_u5, in_p [Cond.fieldLink RX5 9 RX5 "characters" "[C"] [137] (by decide +kernel) (by decide +kernel) _ List.mem_cons_self, rfl, rfl, by decide⟩
set_option maxRecDepth 100000 in
theorem oiX2_3 : ∀ w ∈ ([.methodLink RX2 3 Lib.objectInit, .instanceMethod Lib.objectInit, .code Lib.objectInit ⟨#[0xb1]⟩ 1 none] : List Cond), w ∈ gtb := in_p [.methodLink RX2 3 Lib.objectInit, .instanceMethod Lib.objectInit, .code Lib.objectInit ⟨#[0xb1]⟩ 1 none] [150, 64, 65] rfl (by decide +kernel)
set_option maxRecDepth 100000 in
theorem poX2_9 : Pok RX2 9 2 0 false .int false := ⟨RX2, TX2, 3, tyX2, rfl, by decide, in_u2, tyX2_ok, nmX2, in_p [Cond.fieldLink RX2 9 RX2 "place" "I"] [151] (by decide +kernel) (by decide +kernel) _ List.mem_cons_self, rfl, rfl, by decide +kernel, rfl, by decide, fun _ => rfl⟩
set_option maxRecDepth 100000 in
theorem poX2_15 : Pok RX2 15 2 1 false .boolean false := ⟨RX2, TX2, 3, tyX2, rfl, by decide, in_u2, tyX2_ok, nmX2, in_p [Cond.fieldLink RX2 15 RX2 "hasFault" "Z"] [153] (by decide +kernel) (by decide +kernel) _ List.mem_cons_self, rfl, rfl, by decide +kernel, rfl, by decide, fun _ => rfl⟩
set_option maxRecDepth 100000 in
theorem poX2_19 : Pok RX2 19 2 2 false .boolean false := ⟨RX2, TX2, 3, tyX2, rfl, by decide, in_u2, tyX2_ok, nmX2, in_p [Cond.fieldLink RX2 19 RX2 "isTooLong" "Z"] [155] (by decide +kernel) (by decide +kernel) _ List.mem_cons_self, rfl, rfl, by decide +kernel, rfl, by decide, fun _ => rfl⟩
set_option maxRecDepth 100000 in
theorem ckX2_22 : CkV RX2 22 yX3_clear cX3_clear 1 none 0 := ⟨in_p [.methodLink RX2 22 yX3_clear, .instanceMethod yX3_clear, .selects yX3_clear.cls yX3_clear yX3_clear, .initialized yX3_clear.cls, .code yX3_clear cX3_clear 1 none] [311, 312, 313, 50, 314] rfl (by decide +kernel), ⟨by decide +kernel, by decide +kernel, by decide +kernel⟩⟩
set_option maxRecDepth 100000 in
theorem ckX2_27 : CkV RX2 27 yX2_readSyllable cX2_readSyllable 8 (some .boolean) 3 := ⟨in_p [.methodLink RX2 27 yX2_readSyllable, .instanceMethod yX2_readSyllable, .selects yX2_readSyllable.cls yX2_readSyllable yX2_readSyllable, .initialized yX2_readSyllable.cls, .code yX2_readSyllable cX2_readSyllable 8 (some .boolean)] [315, 317, 1, 54, 318] rfl (by decide +kernel), ⟨by decide +kernel, by decide +kernel, by decide +kernel⟩⟩
set_option maxRecDepth 100000 in
theorem foX2_15 : Fok RX2 15 2 1 false := ⟨RX2, TX2, 3, rfl, by decide, in_u2, in_p [Cond.fieldLink RX2 15 RX2 "hasFault" "Z"] [153] (by decide +kernel) (by decide +kernel) _ List.mem_cons_self, rfl, rfl, by decide⟩
set_option maxRecDepth 100000 in
theorem foX2_9 : Fok RX2 9 2 0 false := ⟨RX2, TX2, 3, rfl, by decide, in_u2, in_p [Cond.fieldLink RX2 9 RX2 "place" "I"] [151] (by decide +kernel) (by decide +kernel) _ List.mem_cons_self, rfl, rfl, by decide⟩
set_option maxRecDepth 100000 in
theorem ckX2_31 : CkV RX2 31 yX5_size cX5_size 1 (some .int) 0 := ⟨in_p [.methodLink RX2 31 yX5_size, .instanceMethod yX5_size, .selects yX5_size.cls yX5_size yX5_size, .initialized yX5_size.cls, .code yX5_size cX5_size 1 (some .int)] [338, 339, 340, 53, 341] rfl (by decide +kernel), ⟨by decide +kernel, by decide +kernel, by decide +kernel⟩⟩
set_option maxRecDepth 100000 in
theorem ckX2_37 : CkV RX2 37 yX5_hasAt cX5_hasAt 3 (some .boolean) 2 := ⟨in_p [.methodLink RX2 37 yX5_hasAt, .instanceMethod yX5_hasAt, .selects yX5_hasAt.cls yX5_hasAt yX5_hasAt, .initialized yX5_hasAt.cls, .code yX5_hasAt cX5_hasAt 3 (some .boolean)] [323, 324, 325, 53, 326] rfl (by decide +kernel), ⟨by decide +kernel, by decide +kernel, by decide +kernel⟩⟩
set_option maxRecDepth 100000 in
theorem ckX2_41 : CkV RX2 41 yX2_skip cX2_skip 3 (some .boolean) 2 := ⟨in_p [.methodLink RX2 41 yX2_skip, .instanceMethod yX2_skip, .selects yX2_skip.cls yX2_skip yX2_skip, .initialized yX2_skip.cls, .code yX2_skip cX2_skip 3 (some .boolean)] [319, 321, 2, 54, 322] rfl (by decide +kernel), ⟨by decide +kernel, by decide +kernel, by decide +kernel⟩⟩
set_option maxRecDepth 100000 in
theorem ckX2_45 : CkV RX2 45 yX2_readNumber cX2_readNumber 6 (some .int) 3 := ⟨in_p [.methodLink RX2 45 yX2_readNumber, .instanceMethod yX2_readNumber, .selects yX2_readNumber.cls yX2_readNumber yX2_readNumber, .initialized yX2_readNumber.cls, .code yX2_readNumber cX2_readNumber 6 (some .int)] [328, 330, 3, 54, 331] rfl (by decide +kernel), ⟨by decide +kernel, by decide +kernel, by decide +kernel⟩⟩
set_option maxRecDepth 100000 in
theorem ckX2_49 : CkV RX2 49 yX3_hasRoomFor cX3_hasRoomFor 3 (some .boolean) 2 := ⟨in_p [.methodLink RX2 49 yX3_hasRoomFor, .instanceMethod yX3_hasRoomFor, .selects yX3_hasRoomFor.cls yX3_hasRoomFor yX3_hasRoomFor, .initialized yX3_hasRoomFor.cls, .code yX3_hasRoomFor cX3_hasRoomFor 3 (some .boolean)] [336, 242, 243, 50, 244] rfl (by decide +kernel), ⟨by decide +kernel, by decide +kernel, by decide +kernel⟩⟩
set_option maxRecDepth 100000 in
theorem ckX2_53 : CkV RX2 53 yX3_append cX3_append 8 (some .int) 5 := ⟨in_p [.methodLink RX2 53 yX3_append, .instanceMethod yX3_append, .selects yX3_append.cls yX3_append yX3_append, .initialized yX3_append.cls, .code yX3_append cX3_append 8 (some .int)] [337, 280, 281, 50, 282] rfl (by decide +kernel), ⟨by decide +kernel, by decide +kernel, by decide +kernel⟩⟩
set_option maxRecDepth 100000 in
theorem ckX2_57 : CkV RX2 57 yX5_digitAt cX5_digitAt 3 (some .int) 1 := ⟨in_p [.methodLink RX2 57 yX5_digitAt, .instanceMethod yX5_digitAt, .selects yX5_digitAt.cls yX5_digitAt yX5_digitAt, .initialized yX5_digitAt.cls, .code yX5_digitAt cX5_digitAt 3 (some .int)] [332, 333, 334, 53, 335] rfl (by decide +kernel), ⟨by decide +kernel, by decide +kernel, by decide +kernel⟩⟩
set_option maxRecDepth 100000 in
theorem oiX7_1 : ∀ w ∈ ([.methodLink RX7 1 Lib.objectInit, .instanceMethod Lib.objectInit, .code Lib.objectInit ⟨#[0xb1]⟩ 1 none] : List Cond), w ∈ gtb := in_p [.methodLink RX7 1 Lib.objectInit, .instanceMethod Lib.objectInit, .code Lib.objectInit ⟨#[0xb1]⟩ 1 none] [665, 64, 65] rfl (by decide +kernel)
set_option maxRecDepth 100000 in
theorem poX7_7 : Pok RX7 7 7 0 true (.array .int) true := ⟨RX7, TX7, 16, tyX7, rfl, by decide, in_u7, tyX7_ok, nmX7, in_p [Cond.fieldLink RX7 7 RX7 "s" "[I"] [666] (by decide +kernel) (by decide +kernel) _ List.mem_cons_self, rfl, rfl, by decide +kernel, rfl, by decide, fun _ => rfl⟩
set_option maxRecDepth 100000 in
theorem poX7_13 : Pok RX7 13 7 1 true (.array .int) true := ⟨RX7, TX7, 16, tyX7, rfl, by decide, in_u7, tyX7_ok, nmX7, in_p [Cond.fieldLink RX7 13 RX7 "history" "[I"] [667] (by decide +kernel) (by decide +kernel) _ List.mem_cons_self, rfl, rfl, by decide +kernel, rfl, by decide, fun _ => rfl⟩
set_option maxRecDepth 100000 in
theorem poX7_16 : Pok RX7 16 7 3 true (.array .int) true := ⟨RX7, TX7, 16, tyX7, rfl, by decide, in_u7, tyX7_ok, nmX7, in_p [Cond.fieldLink RX7 16 RX7 "snapshot" "[I"] [669] (by decide +kernel) (by decide +kernel) _ List.mem_cons_self, rfl, rfl, by decide +kernel, rfl, by decide, fun _ => rfl⟩
set_option maxRecDepth 100000 in
theorem poX7_19 : Pok RX7 19 7 5 true (.array .char) true := ⟨RX7, TX7, 16, tyX7, rfl, by decide, in_u7, tyX7_ok, nmX7, in_p [Cond.fieldLink RX7 19 RX7 "text" "[C"] [671] (by decide +kernel) (by decide +kernel) _ List.mem_cons_self, rfl, rfl, by decide +kernel, rfl, by decide, fun _ => rfl⟩
set_option maxRecDepth 100000 in
theorem poX7_23 : Pok RX7 23 7 7 true (.array .int) true := ⟨RX7, TX7, 16, tyX7, rfl, by decide, in_u7, tyX7_ok, nmX7, in_p [Cond.fieldLink RX7 23 RX7 "heard" "[I"] [673] (by decide +kernel) (by decide +kernel) _ List.mem_cons_self, rfl, rfl, by decide +kernel, rfl, by decide, fun _ => rfl⟩
set_option maxRecDepth 100000 in
theorem poX7_26 : Pok RX7 26 7 8 true (.array .int) true := ⟨RX7, TX7, 16, tyX7, rfl, by decide, in_u7, tyX7_ok, nmX7, in_p [Cond.fieldLink RX7 26 RX7 "matching" "[I"] [674] (by decide +kernel) (by decide +kernel) _ List.mem_cons_self, rfl, rfl, by decide +kernel, rfl, by decide, fun _ => rfl⟩
set_option maxRecDepth 100000 in
theorem poX7_29 : Pok RX7 29 7 9 true (.array .int) true := ⟨RX7, TX7, 16, tyX7, rfl, by decide, in_u7, tyX7_ok, nmX7, in_p [Cond.fieldLink RX7 29 RX7 "onset" "[I"] [675] (by decide +kernel) (by decide +kernel) _ List.mem_cons_self, rfl, rfl, by decide +kernel, rfl, by decide, fun _ => rfl⟩
set_option maxRecDepth 100000 in
theorem poX7_32 : Pok RX7 32 7 10 true (.array .int) true := ⟨RX7, TX7, 16, tyX7, rfl, by decide, in_u7, tyX7_ok, nmX7, in_p [Cond.fieldLink RX7 32 RX7 "why" "[I"] [676] (by decide +kernel) (by decide +kernel) _ List.mem_cons_self, rfl, rfl, by decide +kernel, rfl, by decide, fun _ => rfl⟩
set_option maxRecDepth 100000 in
theorem poX7_35 : Pok RX7 35 7 11 true (.array .int) true := ⟨RX7, TX7, 16, tyX7, rfl, by decide, in_u7, tyX7_ok, nmX7, in_p [Cond.fieldLink RX7 35 RX7 "row" "[I"] [677] (by decide +kernel) (by decide +kernel) _ List.mem_cons_self, rfl, rfl, by decide +kernel, rfl, by decide, fun _ => rfl⟩
set_option maxRecDepth 100000 in
theorem poX7_38 : Pok RX7 38 7 12 true (.array .int) true := ⟨RX7, TX7, 16, tyX7, rfl, by decide, in_u7, tyX7_ok, nmX7, in_p [Cond.fieldLink RX7 38 RX7 "points" "[I"] [678] (by decide +kernel) (by decide +kernel) _ List.mem_cons_self, rfl, rfl, by decide +kernel, rfl, by decide, fun _ => rfl⟩
set_option maxRecDepth 100000 in
theorem poX7_41 : Pok RX7 41 7 14 true (.array .int) true := ⟨RX7, TX7, 16, tyX7, rfl, by decide, in_u7, tyX7_ok, nmX7, in_p [Cond.fieldLink RX7 41 RX7 "told" "[I"] [680] (by decide +kernel) (by decide +kernel) _ List.mem_cons_self, rfl, rfl, by decide +kernel, rfl, by decide, fun _ => rfl⟩
set_option maxRecDepth 100000 in
theorem foX7_7 : Fok RX7 7 7 0 true := ⟨RX7, TX7, 16, rfl, by decide, in_u7, in_p [Cond.fieldLink RX7 7 RX7 "s" "[I"] [666] (by decide +kernel) (by decide +kernel) _ List.mem_cons_self, rfl, rfl, by decide⟩
set_option maxRecDepth 100000 in
theorem ckX7_44 : CkS RX7 44 yX7_in cX7_in 3 (some .boolean) 3 := ⟨in_p [.methodLink RX7 44 yX7_in, .static yX7_in, .initialized RX7, .code yX7_in cX7_in 3 (some .boolean)] [722, 723, 56, 724] rfl (by decide +kernel), rfl, ⟨by decide +kernel, by decide +kernel, by decide +kernel⟩⟩
set_option maxRecDepth 100000 in
theorem foX7_48 : Fok RX7 48 7 2 false := ⟨RX7, TX7, 16, rfl, by decide, in_u7, in_p [Cond.fieldLink RX7 48 RX7 "kept" "I"] [668] (by decide +kernel) (by decide +kernel) _ List.mem_cons_self, rfl, rfl, by decide⟩
set_option maxRecDepth 100000 in
theorem foX7_13 : Fok RX7 13 7 1 true := ⟨RX7, TX7, 16, rfl, by decide, in_u7, in_p [Cond.fieldLink RX7 13 RX7 "history" "[I"] [667] (by decide +kernel) (by decide +kernel) _ List.mem_cons_self, rfl, rfl, by decide⟩
set_option maxRecDepth 100000 in
theorem poX7_48 : Pok RX7 48 7 2 false .int false := ⟨RX7, TX7, 16, tyX7, rfl, by decide, in_u7, tyX7_ok, nmX7, in_p [Cond.fieldLink RX7 48 RX7 "kept" "I"] [668] (by decide +kernel) (by decide +kernel) _ List.mem_cons_self, rfl, rfl, by decide +kernel, rfl, by decide, fun _ => rfl⟩
set_option maxRecDepth 100000 in
theorem ckX7_52 : CkS RX7 52 yX7_copy cX7_copy 5 none 4 := ⟨in_p [.methodLink RX7 52 yX7_copy, .static yX7_copy, .initialized RX7, .code yX7_copy cX7_copy 5 none] [745, 746, 56, 747] rfl (by decide +kernel), rfl, ⟨by decide +kernel, by decide +kernel, by decide +kernel⟩⟩
set_option maxRecDepth 100000 in
theorem ckX7_56 : CkV RX7 56 yX7_of cX7_of 3 (some .int) 2 := ⟨in_p [.methodLink RX7 56 yX7_of, .instanceMethod yX7_of, .selects yX7_of.cls yX7_of yX7_of, .initialized yX7_of.cls, .code yX7_of cX7_of 3 (some .int)] [737, 739, 16, 56, 740] rfl (by decide +kernel), ⟨by decide +kernel, by decide +kernel, by decide +kernel⟩⟩
set_option maxRecDepth 100000 in
theorem ckX7_60 : CkV RX7 60 yX7_behind cX7_behind 2 (some .int) 1 := ⟨in_p [.methodLink RX7 60 yX7_behind, .instanceMethod yX7_behind, .selects yX7_behind.cls yX7_behind yX7_behind, .initialized yX7_behind.cls, .code yX7_behind cX7_behind 2 (some .int)] [733, 735, 15, 56, 736] rfl (by decide +kernel), ⟨by decide +kernel, by decide +kernel, by decide +kernel⟩⟩
set_option maxRecDepth 100000 in
theorem ckX7_64 : CkV RX7 64 yX7_phraseOf cX7_phraseOf 4 (some .int) 1 := ⟨in_p [.methodLink RX7 64 yX7_phraseOf, .instanceMethod yX7_phraseOf, .selects yX7_phraseOf.cls yX7_phraseOf yX7_phraseOf, .initialized yX7_phraseOf.cls, .code yX7_phraseOf cX7_phraseOf 4 (some .int)] [885, 887, 38, 56, 888] rfl (by decide +kernel), ⟨by decide +kernel, by decide +kernel, by decide +kernel⟩⟩
set_option maxRecDepth 100000 in
theorem ckX7_67 : CkS RX7 67 yX7_isTick cX7_isTick 1 (some .boolean) 1 := ⟨in_p [.methodLink RX7 67 yX7_isTick, .static yX7_isTick, .initialized RX7, .code yX7_isTick cX7_isTick 1 (some .boolean)] [771, 772, 56, 773] rfl (by decide +kernel), rfl, ⟨by decide +kernel, by decide +kernel, by decide +kernel⟩⟩
set_option maxRecDepth 100000 in
theorem foX7_23 : Fok RX7 23 7 7 true := ⟨RX7, TX7, 16, rfl, by decide, in_u7, in_p [Cond.fieldLink RX7 23 RX7 "heard" "[I"] [673] (by decide +kernel) (by decide +kernel) _ List.mem_cons_self, rfl, rfl, by decide⟩
set_option maxRecDepth 100000 in
theorem ckX7_71 : CkS RX7 71 yX7_isPitch cX7_isPitch 1 (some .boolean) 1 := ⟨in_p [.methodLink RX7 71 yX7_isPitch, .static yX7_isPitch, .initialized RX7, .code yX7_isPitch cX7_isPitch 1 (some .boolean)] [719, 720, 56, 721] rfl (by decide +kernel), rfl, ⟨by decide +kernel, by decide +kernel, by decide +kernel⟩⟩
set_option maxRecDepth 100000 in
theorem ckX7_74 : CkV RX7 74 yX7_wantedIn cX7_wantedIn 4 (some .int) 2 := ⟨in_p [.methodLink RX7 74 yX7_wantedIn, .instanceMethod yX7_wantedIn, .selects yX7_wantedIn.cls yX7_wantedIn yX7_wantedIn, .initialized yX7_wantedIn.cls, .code yX7_wantedIn cX7_wantedIn 4 (some .int)] [790, 792, 24, 56, 793] rfl (by decide +kernel), ⟨by decide +kernel, by decide +kernel, by decide +kernel⟩⟩
set_option maxRecDepth 100000 in
theorem ckX7_77 : CkS RX7 77 yX7_size cX7_size 1 (some .int) 1 := ⟨in_p [.methodLink RX7 77 yX7_size, .static yX7_size, .initialized RX7, .code yX7_size cX7_size 1 (some .int)] [794, 795, 56, 796] rfl (by decide +kernel), rfl, ⟨by decide +kernel, by decide +kernel, by decide +kernel⟩⟩
set_option maxRecDepth 100000 in
theorem ckX7_80 : CkV RX7 80 yX7_isOnset cX7_isOnset 2 (some .boolean) 1 := ⟨in_p [.methodLink RX7 80 yX7_isOnset, .instanceMethod yX7_isOnset, .selects yX7_isOnset.cls yX7_isOnset yX7_isOnset, .initialized yX7_isOnset.cls, .code yX7_isOnset cX7_isOnset 2 (some .boolean)] [801, 803, 26, 56, 804] rfl (by decide +kernel), ⟨by decide +kernel, by decide +kernel, by decide +kernel⟩⟩
set_option maxRecDepth 100000 in
theorem foX7_26 : Fok RX7 26 7 8 true := ⟨RX7, TX7, 16, rfl, by decide, in_u7, in_p [Cond.fieldLink RX7 26 RX7 "matching" "[I"] [674] (by decide +kernel) (by decide +kernel) _ List.mem_cons_self, rfl, rfl, by decide⟩
set_option maxRecDepth 100000 in
theorem foX7_29 : Fok RX7 29 7 9 true := ⟨RX7, TX7, 16, rfl, by decide, in_u7, in_p [Cond.fieldLink RX7 29 RX7 "onset" "[I"] [675] (by decide +kernel) (by decide +kernel) _ List.mem_cons_self, rfl, rfl, by decide⟩
set_option maxRecDepth 100000 in
theorem ckX7_83 : CkV RX7 83 yX7_share cX7_share 2 (some .int) 1 := ⟨in_p [.methodLink RX7 83 yX7_share, .instanceMethod yX7_share, .selects yX7_share.cls yX7_share yX7_share, .initialized yX7_share.cls, .code yX7_share cX7_share 2 (some .int)] [809, 811, 28, 56, 812] rfl (by decide +kernel), ⟨by decide +kernel, by decide +kernel, by decide +kernel⟩⟩
set_option maxRecDepth 100000 in
theorem ckX7_86 : CkV RX7 86 yX7_matches cX7_matches 4 (some .boolean) 2 := ⟨in_p [.methodLink RX7 86 yX7_matches, .instanceMethod yX7_matches, .selects yX7_matches.cls yX7_matches yX7_matches, .initialized yX7_matches.cls, .code yX7_matches cX7_matches 4 (some .boolean)] [786, 788, 23, 56, 789] rfl (by decide +kernel), ⟨by decide +kernel, by decide +kernel, by decide +kernel⟩⟩
set_option maxRecDepth 100000 in
theorem foX7_32 : Fok RX7 32 7 10 true := ⟨RX7, TX7, 16, rfl, by decide, in_u7, in_p [Cond.fieldLink RX7 32 RX7 "why" "[I"] [676] (by decide +kernel) (by decide +kernel) _ List.mem_cons_self, rfl, rfl, by decide⟩
set_option maxRecDepth 100000 in
theorem ckX7_90 : CkV RX7 90 yX7_bars cX7_bars 5 (some .int) 2 := ⟨in_p [.methodLink RX7 90 yX7_bars, .instanceMethod yX7_bars, .selects yX7_bars.cls yX7_bars yX7_bars, .initialized yX7_bars.cls, .code yX7_bars cX7_bars 5 (some .int)] [817, 819, 30, 56, 820] rfl (by decide +kernel), ⟨by decide +kernel, by decide +kernel, by decide +kernel⟩⟩
set_option maxRecDepth 100000 in
theorem foX7_35 : Fok RX7 35 7 11 true := ⟨RX7, TX7, 16, rfl, by decide, in_u7, in_p [Cond.fieldLink RX7 35 RX7 "row" "[I"] [677] (by decide +kernel) (by decide +kernel) _ List.mem_cons_self, rfl, rfl, by decide⟩
set_option maxRecDepth 100000 in
theorem ckX7_94 : CkV RX7 94 yX7_nearestOnset cX7_nearestOnset 4 (some .int) 1 := ⟨in_p [.methodLink RX7 94 yX7_nearestOnset, .instanceMethod yX7_nearestOnset, .selects yX7_nearestOnset.cls yX7_nearestOnset yX7_nearestOnset, .initialized yX7_nearestOnset.cls, .code yX7_nearestOnset cX7_nearestOnset 4 (some .int)] [797, 799, 25, 56, 800] rfl (by decide +kernel), ⟨by decide +kernel, by decide +kernel, by decide +kernel⟩⟩
set_option maxRecDepth 100000 in
theorem ckX7_97 : CkV RX7 97 yX7_reasonOf cX7_reasonOf 4 (some .int) 1 := ⟨in_p [.methodLink RX7 97 yX7_reasonOf, .instanceMethod yX7_reasonOf, .selects yX7_reasonOf.cls yX7_reasonOf yX7_reasonOf, .initialized yX7_reasonOf.cls, .code yX7_reasonOf cX7_reasonOf 4 (some .int)] [805, 807, 27, 56, 808] rfl (by decide +kernel), ⟨by decide +kernel, by decide +kernel, by decide +kernel⟩⟩
set_option maxRecDepth 100000 in
theorem foX7_38 : Fok RX7 38 7 12 true := ⟨RX7, TX7, 16, rfl, by decide, in_u7, in_p [Cond.fieldLink RX7 38 RX7 "points" "[I"] [678] (by decide +kernel) (by decide +kernel) _ List.mem_cons_self, rfl, rfl, by decide⟩
set_option maxRecDepth 100000 in
theorem ckX7_100 : CkV RX7 100 yX7_pointsOf cX7_pointsOf 3 (some .int) 1 := ⟨in_p [.methodLink RX7 100 yX7_pointsOf, .instanceMethod yX7_pointsOf, .selects yX7_pointsOf.cls yX7_pointsOf yX7_pointsOf, .initialized yX7_pointsOf.cls, .code yX7_pointsOf cX7_pointsOf 3 (some .int)] [813, 815, 29, 56, 816] rfl (by decide +kernel), ⟨by decide +kernel, by decide +kernel, by decide +kernel⟩⟩
set_option maxRecDepth 100000 in
theorem ckX7_103 : CkV RX7 103 yX7_hear cX7_hear 5 none 2 := ⟨in_p [.methodLink RX7 103 yX7_hear, .instanceMethod yX7_hear, .selects yX7_hear.cls yX7_hear yX7_hear, .initialized yX7_hear.cls, .code yX7_hear cX7_hear 5 none] [778, 780, 21, 56, 781] rfl (by decide +kernel), ⟨by decide +kernel, by decide +kernel, by decide +kernel⟩⟩
set_option maxRecDepth 100000 in
theorem ckX7_107 : CkV RX7 107 yX7_judge cX7_judge 4 none 0 := ⟨in_p [.methodLink RX7 107 yX7_judge, .instanceMethod yX7_judge, .selects yX7_judge.cls yX7_judge yX7_judge, .initialized yX7_judge.cls, .code yX7_judge cX7_judge 4 none] [782, 784, 22, 56, 785] rfl (by decide +kernel), ⟨by decide +kernel, by decide +kernel, by decide +kernel⟩⟩
set_option maxRecDepth 100000 in
theorem ckX7_110 : CkV RX7 110 yX7_phrases cX7_phrases 1 (some .int) 0 := ⟨in_p [.methodLink RX7 110 yX7_phrases, .instanceMethod yX7_phrases, .selects yX7_phrases.cls yX7_phrases yX7_phrases, .initialized yX7_phrases.cls, .code yX7_phrases cX7_phrases 1 (some .int)] [909, 911, 40, 56, 912] rfl (by decide +kernel), ⟨by decide +kernel, by decide +kernel, by decide +kernel⟩⟩
set_option maxRecDepth 100000 in
theorem ckX7_114 : CkV RX7 114 yX7_ofPhrase cX7_ofPhrase 10 (some .int) 2 := ⟨in_p [.methodLink RX7 114 yX7_ofPhrase, .instanceMethod yX7_ofPhrase, .selects yX7_ofPhrase.cls yX7_ofPhrase yX7_ofPhrase, .initialized yX7_ofPhrase.cls, .code yX7_ofPhrase cX7_ofPhrase 10 (some .int)] [913, 915, 41, 56, 916] rfl (by decide +kernel), ⟨by decide +kernel, by decide +kernel, by decide +kernel⟩⟩
set_option maxRecDepth 100000 in
theorem ckX7_117 : CkV RX7 117 yX7_endOfSong cX7_endOfSong 1 (some .int) 0 := ⟨in_p [.methodLink RX7 117 yX7_endOfSong, .instanceMethod yX7_endOfSong, .selects yX7_endOfSong.cls yX7_endOfSong yX7_endOfSong, .initialized yX7_endOfSong.cls, .code yX7_endOfSong cX7_endOfSong 1 (some .int)] [729, 731, 14, 56, 732] rfl (by decide +kernel), ⟨by decide +kernel, by decide +kernel, by decide +kernel⟩⟩
set_option maxRecDepth 100000 in
theorem ckX7_120 : CkV RX7 120 yX7_lay cX7_lay 4 none 3 := ⟨in_p [.methodLink RX7 120 yX7_lay, .instanceMethod yX7_lay, .selects yX7_lay.cls yX7_lay yX7_lay, .initialized yX7_lay.cls, .code yX7_lay cX7_lay 4 none] [752, 754, 19, 56, 755] rfl (by decide +kernel), ⟨by decide +kernel, by decide +kernel, by decide +kernel⟩⟩
set_option maxRecDepth 100000 in
theorem ckX7_124 : CkV RX7 124 yX7_addError cX7_addError 4 (some .int) 3 := ⟨in_p [.methodLink RX7 124 yX7_addError, .instanceMethod yX7_addError, .selects yX7_addError.cls yX7_addError yX7_addError, .initialized yX7_addError.cls, .code yX7_addError cX7_addError 4 (some .int)] [725, 727, 13, 56, 728] rfl (by decide +kernel), ⟨by decide +kernel, by decide +kernel, by decide +kernel⟩⟩
set_option maxRecDepth 100000 in
theorem ckX7_128 : CkV RX7 128 yX7_record cX7_record 2 none 0 := ⟨in_p [.methodLink RX7 128 yX7_record, .instanceMethod yX7_record, .selects yX7_record.cls yX7_record yX7_record, .initialized yX7_record.cls, .code yX7_record cX7_record 2 none] [741, 743, 17, 56, 744] rfl (by decide +kernel), ⟨by decide +kernel, by decide +kernel, by decide +kernel⟩⟩
set_option maxRecDepth 100000 in
theorem ckX7_131 : CkV RX7 131 yX7_doAdd cX7_doAdd 7 (some .int) 5 := ⟨in_p [.methodLink RX7 131 yX7_doAdd, .instanceMethod yX7_doAdd, .selects yX7_doAdd.cls yX7_doAdd yX7_doAdd, .initialized yX7_doAdd.cls, .code yX7_doAdd cX7_doAdd 7 (some .int)] [748, 750, 18, 56, 751] rfl (by decide +kernel), ⟨by decide +kernel, by decide +kernel, by decide +kernel⟩⟩
set_option maxRecDepth 100000 in
theorem ckX7_135 : CkS RX7 135 yX7_settingError cX7_settingError 2 (some .int) 2 := ⟨in_p [.methodLink RX7 135 yX7_settingError, .static yX7_settingError, .initialized RX7, .code yX7_settingError cX7_settingError 2 (some .int)] [764, 765, 56, 766] rfl (by decide +kernel), rfl, ⟨by decide +kernel, by decide +kernel, by decide +kernel⟩⟩
set_option maxRecDepth 100000 in
theorem ckX7_138 : CkV RX7 138 yX7_judgeSong cX7_judgeSong 1 none 0 := ⟨in_p [.methodLink RX7 138 yX7_judgeSong, .instanceMethod yX7_judgeSong, .selects yX7_judgeSong.cls yX7_judgeSong yX7_judgeSong, .initialized yX7_judgeSong.cls, .code yX7_judgeSong cX7_judgeSong 1 none] [774, 776, 20, 56, 777] rfl (by decide +kernel), ⟨by decide +kernel, by decide +kernel, by decide +kernel⟩⟩
set_option maxRecDepth 100000 in
theorem ckX7_141 : CkV RX7 141 yX7_hits cX7_hits 3 (some .int) 0 := ⟨in_p [.methodLink RX7 141 yX7_hits, .instanceMethod yX7_hits, .selects yX7_hits.cls yX7_hits yX7_hits, .initialized yX7_hits.cls, .code yX7_hits cX7_hits 3 (some .int)] [821, 823, 31, 56, 824] rfl (by decide +kernel), ⟨by decide +kernel, by decide +kernel, by decide +kernel⟩⟩
set_option maxRecDepth 100000 in
theorem ckX7_144 : CkV RX7 144 yX7_isSyllable cX7_isSyllable 2 (some .boolean) 1 := ⟨in_p [.methodLink RX7 144 yX7_isSyllable, .instanceMethod yX7_isSyllable, .selects yX7_isSyllable.cls yX7_isSyllable yX7_isSyllable, .initialized yX7_isSyllable.cls, .code yX7_isSyllable cX7_isSyllable 2 (some .boolean)] [833, 835, 32, 56, 836] rfl (by decide +kernel), ⟨by decide +kernel, by decide +kernel, by decide +kernel⟩⟩
set_option maxRecDepth 100000 in
theorem foX7_147 : Fok RX7 147 7 6 false := ⟨RX7, TX7, 16, rfl, by decide, in_u7, in_p [Cond.fieldLink RX7 147 RX7 "length" "I"] [672] (by decide +kernel) (by decide +kernel) _ List.mem_cons_self, rfl, rfl, by decide⟩
set_option maxRecDepth 100000 in
theorem foX7_19 : Fok RX7 19 7 5 true := ⟨RX7, TX7, 16, rfl, by decide, in_u7, in_p [Cond.fieldLink RX7 19 RX7 "text" "[C"] [671] (by decide +kernel) (by decide +kernel) _ List.mem_cons_self, rfl, rfl, by decide⟩
set_option maxRecDepth 100000 in
theorem poX7_147 : Pok RX7 147 7 6 false .int false := ⟨RX7, TX7, 16, tyX7, rfl, by decide, in_u7, tyX7_ok, nmX7, in_p [Cond.fieldLink RX7 147 RX7 "length" "I"] [672] (by decide +kernel) (by decide +kernel) _ List.mem_cons_self, rfl, rfl, by decide +kernel, rfl, by decide, fun _ => rfl⟩
set_option maxRecDepth 100000 in
theorem foX7_150 : Fok RX7 150 7 13 false := ⟨RX7, TX7, 16, rfl, by decide, in_u7, in_p [Cond.fieldLink RX7 150 RX7 "place" "I"] [679] (by decide +kernel) (by decide +kernel) _ List.mem_cons_self, rfl, rfl, by decide⟩
set_option maxRecDepth 100000 in
theorem ckX7_153 : CkV RX7 153 yX7_isNext cX7_isNext 3 (some .boolean) 2 := ⟨in_p [.methodLink RX7 153 yX7_isNext, .instanceMethod yX7_isNext, .selects yX7_isNext.cls yX7_isNext yX7_isNext, .initialized yX7_isNext.cls, .code yX7_isNext cX7_isNext 3 (some .boolean)] [861, 863, 36, 56, 864] rfl (by decide +kernel), ⟨by decide +kernel, by decide +kernel, by decide +kernel⟩⟩
set_option maxRecDepth 100000 in
theorem poX7_150 : Pok RX7 150 7 13 false .int false := ⟨RX7, TX7, 16, tyX7, rfl, by decide, in_u7, tyX7_ok, nmX7, in_p [Cond.fieldLink RX7 150 RX7 "place" "I"] [679] (by decide +kernel) (by decide +kernel) _ List.mem_cons_self, rfl, rfl, by decide +kernel, rfl, by decide, fun _ => rfl⟩
set_option maxRecDepth 100000 in
theorem foX7_41 : Fok RX7 41 7 14 true := ⟨RX7, TX7, 16, rfl, by decide, in_u7, in_p [Cond.fieldLink RX7 41 RX7 "told" "[I"] [680] (by decide +kernel) (by decide +kernel) _ List.mem_cons_self, rfl, rfl, by decide⟩
set_option maxRecDepth 100000 in
theorem ckX7_156 : CkV RX7 156 yX7_takes cX7_takes 3 (some .boolean) 1 := ⟨in_p [.methodLink RX7 156 yX7_takes, .instanceMethod yX7_takes, .selects yX7_takes.cls yX7_takes yX7_takes, .initialized yX7_takes.cls, .code yX7_takes cX7_takes 3 (some .boolean)] [857, 859, 35, 56, 860] rfl (by decide +kernel), ⟨by decide +kernel, by decide +kernel, by decide +kernel⟩⟩
set_option maxRecDepth 100000 in
theorem ckX7_159 : CkV RX7 159 yX7_readNumber cX7_readNumber 5 (some .boolean) 3 := ⟨in_p [.methodLink RX7 159 yX7_readNumber, .instanceMethod yX7_readNumber, .selects yX7_readNumber.cls yX7_readNumber yX7_readNumber, .initialized yX7_readNumber.cls, .code yX7_readNumber cX7_readNumber 5 (some .boolean)] [865, 867, 37, 56, 868] rfl (by decide +kernel), ⟨by decide +kernel, by decide +kernel, by decide +kernel⟩⟩
set_option maxRecDepth 100000 in
theorem poX7_162 : Pok RX7 162 7 15 false .int false := ⟨RX7, TX7, 16, tyX7, rfl, by decide, in_u7, tyX7_ok, nmX7, in_p [Cond.fieldLink RX7 162 RX7 "ticksOfText" "I"] [681] (by decide +kernel) (by decide +kernel) _ List.mem_cons_self, rfl, rfl, by decide +kernel, rfl, by decide, fun _ => rfl⟩
set_option maxRecDepth 100000 in
theorem ckX7_165 : CkV RX7 165 yX7_readSyllable cX7_readSyllable 1 (some .boolean) 0 := ⟨in_p [.methodLink RX7 165 yX7_readSyllable, .instanceMethod yX7_readSyllable, .selects yX7_readSyllable.cls yX7_readSyllable yX7_readSyllable, .initialized yX7_readSyllable.cls, .code yX7_readSyllable cX7_readSyllable 1 (some .boolean)] [853, 855, 34, 56, 856] rfl (by decide +kernel), ⟨by decide +kernel, by decide +kernel, by decide +kernel⟩⟩
set_option maxRecDepth 100000 in
theorem foX7_162 : Fok RX7 162 7 15 false := ⟨RX7, TX7, 16, rfl, by decide, in_u7, in_p [Cond.fieldLink RX7 162 RX7 "ticksOfText" "I"] [681] (by decide +kernel) (by decide +kernel) _ List.mem_cons_self, rfl, rfl, by decide⟩
set_option maxRecDepth 100000 in
theorem ckX7_169 : CkV RX7 169 yX7_readText cX7_readText 4 (some .boolean) 1 := ⟨in_p [.methodLink RX7 169 yX7_readText, .instanceMethod yX7_readText, .selects yX7_readText.cls yX7_readText yX7_readText, .initialized yX7_readText.cls, .code yX7_readText cX7_readText 4 (some .boolean)] [849, 851, 33, 56, 852] rfl (by decide +kernel), ⟨by decide +kernel, by decide +kernel, by decide +kernel⟩⟩
set_option maxRecDepth 100000 in
theorem foX7_16 : Fok RX7 16 7 3 true := ⟨RX7, TX7, 16, rfl, by decide, in_u7, in_p [Cond.fieldLink RX7 16 RX7 "snapshot" "[I"] [669] (by decide +kernel) (by decide +kernel) _ List.mem_cons_self, rfl, rfl, by decide⟩
set_option maxRecDepth 100000 in
theorem poX7_173 : Pok RX7 173 7 4 false .boolean false := ⟨RX7, TX7, 16, tyX7, rfl, by decide, in_u7, tyX7_ok, nmX7, in_p [Cond.fieldLink RX7 173 RX7 "isTaken" "Z"] [670] (by decide +kernel) (by decide +kernel) _ List.mem_cons_self, rfl, rfl, by decide +kernel, rfl, by decide, fun _ => rfl⟩
set_option maxRecDepth 100000 in
theorem foX7_173 : Fok RX7 173 7 4 false := ⟨RX7, TX7, 16, rfl, by decide, in_u7, in_p [Cond.fieldLink RX7 173 RX7 "isTaken" "Z"] [670] (by decide +kernel) (by decide +kernel) _ List.mem_cons_self, rfl, rfl, by decide⟩
set_option maxRecDepth 100000 in
theorem ckX7_177 : CkV RX7 177 yX7_syllableAt cX7_syllableAt 4 (some .int) 1 := ⟨in_p [.methodLink RX7 177 yX7_syllableAt, .instanceMethod yX7_syllableAt, .selects yX7_syllableAt.cls yX7_syllableAt yX7_syllableAt, .initialized yX7_syllableAt.cls, .code yX7_syllableAt cX7_syllableAt 4 (some .int)] [893, 895, 39, 56, 896] rfl (by decide +kernel), ⟨by decide +kernel, by decide +kernel, by decide +kernel⟩⟩
set_option maxRecDepth 100000 in
theorem ckX7_180 : CkV RX7 180 yX7_sungTicks cX7_sungTicks 3 (some .int) 0 := ⟨in_p [.methodLink RX7 180 yX7_sungTicks, .instanceMethod yX7_sungTicks, .selects yX7_sungTicks.cls yX7_sungTicks yX7_sungTicks, .initialized yX7_sungTicks.cls, .code yX7_sungTicks cX7_sungTicks 3 (some .int)] [921, 923, 42, 56, 924] rfl (by decide +kernel), ⟨by decide +kernel, by decide +kernel, by decide +kernel⟩⟩
set_option maxRecDepth 100000 in
theorem ckX7_183 : CkV RX7 183 yX7_onsets cX7_onsets 3 (some .int) 0 := ⟨in_p [.methodLink RX7 183 yX7_onsets, .instanceMethod yX7_onsets, .selects yX7_onsets.cls yX7_onsets yX7_onsets, .initialized yX7_onsets.cls, .code yX7_onsets cX7_onsets 3 (some .int)] [925, 927, 43, 56, 928] rfl (by decide +kernel), ⟨by decide +kernel, by decide +kernel, by decide +kernel⟩⟩
set_option maxRecDepth 100000 in
theorem ckX7_186 : CkV RX7 186 yX7_allPoints cX7_allPoints 3 (some .int) 0 := ⟨in_p [.methodLink RX7 186 yX7_allPoints, .instanceMethod yX7_allPoints, .selects yX7_allPoints.cls yX7_allPoints yX7_allPoints, .initialized yX7_allPoints.cls, .code yX7_allPoints cX7_allPoints 3 (some .int)] [929, 931, 44, 56, 932] rfl (by decide +kernel), ⟨by decide +kernel, by decide +kernel, by decide +kernel⟩⟩
set_option maxRecDepth 100000 in
theorem ckX7_189 : CkV RX7 189 yX7_mostPoints cX7_mostPoints 4 (some .int) 0 := ⟨in_p [.methodLink RX7 189 yX7_mostPoints, .instanceMethod yX7_mostPoints, .selects yX7_mostPoints.cls yX7_mostPoints yX7_mostPoints, .initialized yX7_mostPoints.cls, .code yX7_mostPoints cX7_mostPoints 4 (some .int)] [933, 935, 45, 56, 936] rfl (by decide +kernel), ⟨by decide +kernel, by decide +kernel, by decide +kernel⟩⟩
set_option maxRecDepth 100000 in
theorem ckX7_192 : CkV RX7 192 yX7_pointsShifted cX7_pointsShifted 3 (some .int) 2 := ⟨in_p [.methodLink RX7 192 yX7_pointsShifted, .instanceMethod yX7_pointsShifted, .selects yX7_pointsShifted.cls yX7_pointsShifted yX7_pointsShifted, .initialized yX7_pointsShifted.cls, .code yX7_pointsShifted cX7_pointsShifted 3 (some .int)] [941, 943, 46, 56, 944] rfl (by decide +kernel), ⟨by decide +kernel, by decide +kernel, by decide +kernel⟩⟩
end
