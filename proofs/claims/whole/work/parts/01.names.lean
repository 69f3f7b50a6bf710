-- ===== PART A: goes FIRST, ahead of the names: the tables' words, and 'selects' of the private methods out of them =====
/-- a private method of a class that the tables say can be made, by its rows of tables_1 -/
def lw_okq (q : MethodName × Nat) : Prop := (q.1.cls ≠ "java/lang/invoke/MethodHandle" ∧ q.1.cls ≠ "java/lang/invoke/VarHandle") ∧ Cond.instantiable q.1.cls q.2 ∈ tables_1 ∧ Cond.privateMethod q.1 ∈ tables_1 ∧ Cond.instanceMethod q.1 ∈ tables_1
theorem lw_p0 : lw_okq (⟨"SungSlides$History", "dropOldest", "()V"⟩, 2) := ⟨⟨by decide +kernel, by decide +kernel⟩, List.mem_of_getElem? (i := 69) (by decide +kernel), List.mem_of_getElem? (i := 219) (by decide +kernel), List.mem_of_getElem? (i := 220) (by decide +kernel)⟩
theorem lw_p1 : lw_okq (⟨"SungSlides$Reader", "readSyllable", "(LSungSlides$Song;LSungSlides$Text;Z)Z"⟩, 3) := ⟨⟨by decide +kernel, by decide +kernel⟩, List.mem_of_getElem? (i := 99) (by decide +kernel), List.mem_of_getElem? (i := 269) (by decide +kernel), List.mem_of_getElem? (i := 270) (by decide +kernel)⟩
theorem lw_p2 : lw_okq (⟨"SungSlides$Reader", "skip", "(LSungSlides$Text;C)Z"⟩, 3) := ⟨⟨by decide +kernel, by decide +kernel⟩, List.mem_of_getElem? (i := 99) (by decide +kernel), List.mem_of_getElem? (i := 273) (by decide +kernel), List.mem_of_getElem? (i := 274) (by decide +kernel)⟩
theorem lw_p3 : lw_okq (⟨"SungSlides$Reader", "readNumber", "(LSungSlides$Text;II)I"⟩, 3) := ⟨⟨by decide +kernel, by decide +kernel⟩, List.mem_of_getElem? (i := 99) (by decide +kernel), List.mem_of_getElem? (i := 282) (by decide +kernel), List.mem_of_getElem? (i := 283) (by decide +kernel)⟩
theorem lw_p4 : lw_okq (⟨"SungSlides", "hitsNow", "()I"⟩, 8) := ⟨⟨by decide +kernel, by decide +kernel⟩, List.mem_of_getElem? (i := 12) (by decide +kernel), List.mem_of_getElem? (i := 335) (by decide +kernel), List.mem_of_getElem? (i := 336) (by decide +kernel)⟩
theorem lw_p5 : lw_okq (⟨"SungSlides$Judge", "hear", "(LSungSlides$State;I)V"⟩, 12) := ⟨⟨by decide +kernel, by decide +kernel⟩, List.mem_of_getElem? (i := 118) (by decide +kernel), List.mem_of_getElem? (i := 344) (by decide +kernel), List.mem_of_getElem? (i := 345) (by decide +kernel)⟩
theorem lw_p6 : lw_okq (⟨"SungSlides$Judge", "reasonFor", "(III)I"⟩, 12) := ⟨⟨by decide +kernel, by decide +kernel⟩, List.mem_of_getElem? (i := 118) (by decide +kernel), List.mem_of_getElem? (i := 391) (by decide +kernel), List.mem_of_getElem? (i := 392) (by decide +kernel)⟩
theorem lw_p7 : lw_okq (⟨"SungSlides$Judge", "score", "(LSungSlides$Song;)V"⟩, 12) := ⟨⟨by decide +kernel, by decide +kernel⟩, List.mem_of_getElem? (i := 118) (by decide +kernel), List.mem_of_getElem? (i := 410) (by decide +kernel), List.mem_of_getElem? (i := 411) (by decide +kernel)⟩
theorem lw_p8 : lw_okq (⟨"SungSlides$Judge", "beginPhrase", "(I)V"⟩, 12) := ⟨⟨by decide +kernel, by decide +kernel⟩, List.mem_of_getElem? (i := 118) (by decide +kernel), List.mem_of_getElem? (i := 419) (by decide +kernel), List.mem_of_getElem? (i := 420) (by decide +kernel)⟩
theorem lw_p9 : lw_okq (⟨"SungSlides$Judge", "scoreOf", "(LSungSlides$Song;I)I"⟩, 12) := ⟨⟨by decide +kernel, by decide +kernel⟩, List.mem_of_getElem? (i := 118) (by decide +kernel), List.mem_of_getElem? (i := 424) (by decide +kernel), List.mem_of_getElem? (i := 425) (by decide +kernel)⟩
theorem lw_p10 : lw_okq (⟨"SungSlides", "pointsOf", "(LSungSlides$State;)I"⟩, 8) := ⟨⟨by decide +kernel, by decide +kernel⟩, List.mem_of_getElem? (i := 12) (by decide +kernel), List.mem_of_getElem? (i := 576) (by decide +kernel), List.mem_of_getElem? (i := 577) (by decide +kernel)⟩
theorem lw_p11 : lw_okq (⟨"SungSlides", "mostPoints", "()I"⟩, 8) := ⟨⟨by decide +kernel, by decide +kernel⟩, List.mem_of_getElem? (i := 12) (by decide +kernel), List.mem_of_getElem? (i := 580) (by decide +kernel), List.mem_of_getElem? (i := 581) (by decide +kernel)⟩
theorem lw_p12 : lw_okq (⟨"SungSlides", "pointsIfShifted", "(II)I"⟩, 8) := ⟨⟨by decide +kernel, by decide +kernel⟩, List.mem_of_getElem? (i := 12) (by decide +kernel), List.mem_of_getElem? (i := 594) (by decide +kernel), List.mem_of_getElem? (i := 595) (by decide +kernel)⟩
theorem lw_p13 : lw_okq (⟨"SungSlidesModel", "addError", "(III)I"⟩, 16) := ⟨⟨by decide +kernel, by decide +kernel⟩, List.mem_of_getElem? (i := 614) (by decide +kernel), List.mem_of_getElem? (i := 679) (by decide +kernel), List.mem_of_getElem? (i := 680) (by decide +kernel)⟩
theorem lw_p14 : lw_okq (⟨"SungSlidesModel", "endOfSong", "()I"⟩, 16) := ⟨⟨by decide +kernel, by decide +kernel⟩, List.mem_of_getElem? (i := 614) (by decide +kernel), List.mem_of_getElem? (i := 683) (by decide +kernel), List.mem_of_getElem? (i := 684) (by decide +kernel)⟩
theorem lw_p15 : lw_okq (⟨"SungSlidesModel", "behind", "(I)I"⟩, 16) := ⟨⟨by decide +kernel, by decide +kernel⟩, List.mem_of_getElem? (i := 614) (by decide +kernel), List.mem_of_getElem? (i := 687) (by decide +kernel), List.mem_of_getElem? (i := 688) (by decide +kernel)⟩
def lw_privs_1 : List (MethodName × Nat) := [(⟨"SungSlides$History", "dropOldest", "()V"⟩, 2), (⟨"SungSlides$Reader", "readSyllable", "(LSungSlides$Song;LSungSlides$Text;Z)Z"⟩, 3), (⟨"SungSlides$Reader", "skip", "(LSungSlides$Text;C)Z"⟩, 3), (⟨"SungSlides$Reader", "readNumber", "(LSungSlides$Text;II)I"⟩, 3), (⟨"SungSlides", "hitsNow", "()I"⟩, 8), (⟨"SungSlides$Judge", "hear", "(LSungSlides$State;I)V"⟩, 12), (⟨"SungSlides$Judge", "reasonFor", "(III)I"⟩, 12), (⟨"SungSlides$Judge", "score", "(LSungSlides$Song;)V"⟩, 12), (⟨"SungSlides$Judge", "beginPhrase", "(I)V"⟩, 12), (⟨"SungSlides$Judge", "scoreOf", "(LSungSlides$Song;I)I"⟩, 12), (⟨"SungSlides", "pointsOf", "(LSungSlides$State;)I"⟩, 8), (⟨"SungSlides", "mostPoints", "()I"⟩, 8), (⟨"SungSlides", "pointsIfShifted", "(II)I"⟩, 8), (⟨"SungSlidesModel", "addError", "(III)I"⟩, 16), (⟨"SungSlidesModel", "endOfSong", "()I"⟩, 16), (⟨"SungSlidesModel", "behind", "(I)I"⟩, 16)]
theorem lw_r1 : ∀ q ∈ lw_privs_1, lw_okq q := List.forall_mem_cons.mpr ⟨lw_p0, List.forall_mem_cons.mpr ⟨lw_p1, List.forall_mem_cons.mpr ⟨lw_p2, List.forall_mem_cons.mpr ⟨lw_p3, List.forall_mem_cons.mpr ⟨lw_p4, List.forall_mem_cons.mpr ⟨lw_p5, List.forall_mem_cons.mpr ⟨lw_p6, List.forall_mem_cons.mpr ⟨lw_p7, List.forall_mem_cons.mpr ⟨lw_p8, List.forall_mem_cons.mpr ⟨lw_p9, List.forall_mem_cons.mpr ⟨lw_p10, List.forall_mem_cons.mpr ⟨lw_p11, List.forall_mem_cons.mpr ⟨lw_p12, List.forall_mem_cons.mpr ⟨lw_p13, List.forall_mem_cons.mpr ⟨lw_p14, List.forall_mem_cons.mpr ⟨lw_p15, fun _ h => absurd h List.not_mem_nil⟩⟩⟩⟩⟩⟩⟩⟩⟩⟩⟩⟩⟩⟩⟩⟩
theorem lw_p16 : lw_okq (⟨"SungSlidesModel", "of", "(II)I"⟩, 16) := ⟨⟨by decide +kernel, by decide +kernel⟩, List.mem_of_getElem? (i := 614) (by decide +kernel), List.mem_of_getElem? (i := 691) (by decide +kernel), List.mem_of_getElem? (i := 692) (by decide +kernel)⟩
theorem lw_p17 : lw_okq (⟨"SungSlidesModel", "record", "()V"⟩, 16) := ⟨⟨by decide +kernel, by decide +kernel⟩, List.mem_of_getElem? (i := 614) (by decide +kernel), List.mem_of_getElem? (i := 695) (by decide +kernel), List.mem_of_getElem? (i := 696) (by decide +kernel)⟩
theorem lw_p18 : lw_okq (⟨"SungSlidesModel", "doAdd", "(IIIII)I"⟩, 16) := ⟨⟨by decide +kernel, by decide +kernel⟩, List.mem_of_getElem? (i := 614) (by decide +kernel), List.mem_of_getElem? (i := 702) (by decide +kernel), List.mem_of_getElem? (i := 703) (by decide +kernel)⟩
theorem lw_p19 : lw_okq (⟨"SungSlidesModel", "lay", "(III)V"⟩, 16) := ⟨⟨by decide +kernel, by decide +kernel⟩, List.mem_of_getElem? (i := 614) (by decide +kernel), List.mem_of_getElem? (i := 706) (by decide +kernel), List.mem_of_getElem? (i := 707) (by decide +kernel)⟩
theorem lw_p20 : lw_okq (⟨"SungSlidesModel", "judgeSong", "()V"⟩, 16) := ⟨⟨by decide +kernel, by decide +kernel⟩, List.mem_of_getElem? (i := 614) (by decide +kernel), List.mem_of_getElem? (i := 728) (by decide +kernel), List.mem_of_getElem? (i := 729) (by decide +kernel)⟩
theorem lw_p21 : lw_okq (⟨"SungSlidesModel", "hear", "(II)V"⟩, 16) := ⟨⟨by decide +kernel, by decide +kernel⟩, List.mem_of_getElem? (i := 614) (by decide +kernel), List.mem_of_getElem? (i := 732) (by decide +kernel), List.mem_of_getElem? (i := 733) (by decide +kernel)⟩
theorem lw_p22 : lw_okq (⟨"SungSlidesModel", "judge", "()V"⟩, 16) := ⟨⟨by decide +kernel, by decide +kernel⟩, List.mem_of_getElem? (i := 614) (by decide +kernel), List.mem_of_getElem? (i := 736) (by decide +kernel), List.mem_of_getElem? (i := 737) (by decide +kernel)⟩
theorem lw_p23 : lw_okq (⟨"SungSlidesModel", "matches", "(II)Z"⟩, 16) := ⟨⟨by decide +kernel, by decide +kernel⟩, List.mem_of_getElem? (i := 614) (by decide +kernel), List.mem_of_getElem? (i := 740) (by decide +kernel), List.mem_of_getElem? (i := 741) (by decide +kernel)⟩
theorem lw_p24 : lw_okq (⟨"SungSlidesModel", "wantedIn", "(II)I"⟩, 16) := ⟨⟨by decide +kernel, by decide +kernel⟩, List.mem_of_getElem? (i := 614) (by decide +kernel), List.mem_of_getElem? (i := 744) (by decide +kernel), List.mem_of_getElem? (i := 745) (by decide +kernel)⟩
theorem lw_p25 : lw_okq (⟨"SungSlidesModel", "nearestOnset", "(I)I"⟩, 16) := ⟨⟨by decide +kernel, by decide +kernel⟩, List.mem_of_getElem? (i := 614) (by decide +kernel), List.mem_of_getElem? (i := 751) (by decide +kernel), List.mem_of_getElem? (i := 752) (by decide +kernel)⟩
theorem lw_p26 : lw_okq (⟨"SungSlidesModel", "isOnset", "(I)Z"⟩, 16) := ⟨⟨by decide +kernel, by decide +kernel⟩, List.mem_of_getElem? (i := 614) (by decide +kernel), List.mem_of_getElem? (i := 755) (by decide +kernel), List.mem_of_getElem? (i := 756) (by decide +kernel)⟩
theorem lw_p27 : lw_okq (⟨"SungSlidesModel", "reasonOf", "(I)I"⟩, 16) := ⟨⟨by decide +kernel, by decide +kernel⟩, List.mem_of_getElem? (i := 614) (by decide +kernel), List.mem_of_getElem? (i := 759) (by decide +kernel), List.mem_of_getElem? (i := 760) (by decide +kernel)⟩
theorem lw_p28 : lw_okq (⟨"SungSlidesModel", "share", "(I)I"⟩, 16) := ⟨⟨by decide +kernel, by decide +kernel⟩, List.mem_of_getElem? (i := 614) (by decide +kernel), List.mem_of_getElem? (i := 763) (by decide +kernel), List.mem_of_getElem? (i := 764) (by decide +kernel)⟩
theorem lw_p29 : lw_okq (⟨"SungSlidesModel", "pointsOf", "(I)I"⟩, 16) := ⟨⟨by decide +kernel, by decide +kernel⟩, List.mem_of_getElem? (i := 614) (by decide +kernel), List.mem_of_getElem? (i := 767) (by decide +kernel), List.mem_of_getElem? (i := 768) (by decide +kernel)⟩
theorem lw_p30 : lw_okq (⟨"SungSlidesModel", "bars", "(IZ)I"⟩, 16) := ⟨⟨by decide +kernel, by decide +kernel⟩, List.mem_of_getElem? (i := 614) (by decide +kernel), List.mem_of_getElem? (i := 771) (by decide +kernel), List.mem_of_getElem? (i := 772) (by decide +kernel)⟩
theorem lw_p31 : lw_okq (⟨"SungSlidesModel", "hits", "()I"⟩, 16) := ⟨⟨by decide +kernel, by decide +kernel⟩, List.mem_of_getElem? (i := 614) (by decide +kernel), List.mem_of_getElem? (i := 775) (by decide +kernel), List.mem_of_getElem? (i := 776) (by decide +kernel)⟩
def lw_privs_2 : List (MethodName × Nat) := [(⟨"SungSlidesModel", "of", "(II)I"⟩, 16), (⟨"SungSlidesModel", "record", "()V"⟩, 16), (⟨"SungSlidesModel", "doAdd", "(IIIII)I"⟩, 16), (⟨"SungSlidesModel", "lay", "(III)V"⟩, 16), (⟨"SungSlidesModel", "judgeSong", "()V"⟩, 16), (⟨"SungSlidesModel", "hear", "(II)V"⟩, 16), (⟨"SungSlidesModel", "judge", "()V"⟩, 16), (⟨"SungSlidesModel", "matches", "(II)Z"⟩, 16), (⟨"SungSlidesModel", "wantedIn", "(II)I"⟩, 16), (⟨"SungSlidesModel", "nearestOnset", "(I)I"⟩, 16), (⟨"SungSlidesModel", "isOnset", "(I)Z"⟩, 16), (⟨"SungSlidesModel", "reasonOf", "(I)I"⟩, 16), (⟨"SungSlidesModel", "share", "(I)I"⟩, 16), (⟨"SungSlidesModel", "pointsOf", "(I)I"⟩, 16), (⟨"SungSlidesModel", "bars", "(IZ)I"⟩, 16), (⟨"SungSlidesModel", "hits", "()I"⟩, 16)]
theorem lw_r2 : ∀ q ∈ lw_privs_2, lw_okq q := List.forall_mem_cons.mpr ⟨lw_p16, List.forall_mem_cons.mpr ⟨lw_p17, List.forall_mem_cons.mpr ⟨lw_p18, List.forall_mem_cons.mpr ⟨lw_p19, List.forall_mem_cons.mpr ⟨lw_p20, List.forall_mem_cons.mpr ⟨lw_p21, List.forall_mem_cons.mpr ⟨lw_p22, List.forall_mem_cons.mpr ⟨lw_p23, List.forall_mem_cons.mpr ⟨lw_p24, List.forall_mem_cons.mpr ⟨lw_p25, List.forall_mem_cons.mpr ⟨lw_p26, List.forall_mem_cons.mpr ⟨lw_p27, List.forall_mem_cons.mpr ⟨lw_p28, List.forall_mem_cons.mpr ⟨lw_p29, List.forall_mem_cons.mpr ⟨lw_p30, List.forall_mem_cons.mpr ⟨lw_p31, fun _ h => absurd h List.not_mem_nil⟩⟩⟩⟩⟩⟩⟩⟩⟩⟩⟩⟩⟩⟩⟩⟩
theorem lw_p32 : lw_okq (⟨"SungSlidesModel", "isSyllable", "(I)Z"⟩, 16) := ⟨⟨by decide +kernel, by decide +kernel⟩, List.mem_of_getElem? (i := 614) (by decide +kernel), List.mem_of_getElem? (i := 787) (by decide +kernel), List.mem_of_getElem? (i := 788) (by decide +kernel)⟩
theorem lw_p33 : lw_okq (⟨"SungSlidesModel", "readText", "(Z)Z"⟩, 16) := ⟨⟨by decide +kernel, by decide +kernel⟩, List.mem_of_getElem? (i := 614) (by decide +kernel), List.mem_of_getElem? (i := 803) (by decide +kernel), List.mem_of_getElem? (i := 804) (by decide +kernel)⟩
theorem lw_p34 : lw_okq (⟨"SungSlidesModel", "readSyllable", "()Z"⟩, 16) := ⟨⟨by decide +kernel, by decide +kernel⟩, List.mem_of_getElem? (i := 614) (by decide +kernel), List.mem_of_getElem? (i := 807) (by decide +kernel), List.mem_of_getElem? (i := 808) (by decide +kernel)⟩
theorem lw_p35 : lw_okq (⟨"SungSlidesModel", "takes", "(I)Z"⟩, 16) := ⟨⟨by decide +kernel, by decide +kernel⟩, List.mem_of_getElem? (i := 614) (by decide +kernel), List.mem_of_getElem? (i := 811) (by decide +kernel), List.mem_of_getElem? (i := 812) (by decide +kernel)⟩
theorem lw_p36 : lw_okq (⟨"SungSlidesModel", "isNext", "(II)Z"⟩, 16) := ⟨⟨by decide +kernel, by decide +kernel⟩, List.mem_of_getElem? (i := 614) (by decide +kernel), List.mem_of_getElem? (i := 815) (by decide +kernel), List.mem_of_getElem? (i := 816) (by decide +kernel)⟩
theorem lw_p37 : lw_okq (⟨"SungSlidesModel", "readNumber", "(III)Z"⟩, 16) := ⟨⟨by decide +kernel, by decide +kernel⟩, List.mem_of_getElem? (i := 614) (by decide +kernel), List.mem_of_getElem? (i := 819) (by decide +kernel), List.mem_of_getElem? (i := 820) (by decide +kernel)⟩
theorem lw_p38 : lw_okq (⟨"SungSlidesModel", "phraseOf", "(I)I"⟩, 16) := ⟨⟨by decide +kernel, by decide +kernel⟩, List.mem_of_getElem? (i := 614) (by decide +kernel), List.mem_of_getElem? (i := 839) (by decide +kernel), List.mem_of_getElem? (i := 840) (by decide +kernel)⟩
theorem lw_p39 : lw_okq (⟨"SungSlidesModel", "syllableAt", "(I)I"⟩, 16) := ⟨⟨by decide +kernel, by decide +kernel⟩, List.mem_of_getElem? (i := 614) (by decide +kernel), List.mem_of_getElem? (i := 847) (by decide +kernel), List.mem_of_getElem? (i := 848) (by decide +kernel)⟩
theorem lw_p40 : lw_okq (⟨"SungSlidesModel", "phrases", "()I"⟩, 16) := ⟨⟨by decide +kernel, by decide +kernel⟩, List.mem_of_getElem? (i := 614) (by decide +kernel), List.mem_of_getElem? (i := 863) (by decide +kernel), List.mem_of_getElem? (i := 864) (by decide +kernel)⟩
theorem lw_p41 : lw_okq (⟨"SungSlidesModel", "ofPhrase", "(II)I"⟩, 16) := ⟨⟨by decide +kernel, by decide +kernel⟩, List.mem_of_getElem? (i := 614) (by decide +kernel), List.mem_of_getElem? (i := 867) (by decide +kernel), List.mem_of_getElem? (i := 868) (by decide +kernel)⟩
theorem lw_p42 : lw_okq (⟨"SungSlidesModel", "sungTicks", "()I"⟩, 16) := ⟨⟨by decide +kernel, by decide +kernel⟩, List.mem_of_getElem? (i := 614) (by decide +kernel), List.mem_of_getElem? (i := 875) (by decide +kernel), List.mem_of_getElem? (i := 876) (by decide +kernel)⟩
theorem lw_p43 : lw_okq (⟨"SungSlidesModel", "onsets", "()I"⟩, 16) := ⟨⟨by decide +kernel, by decide +kernel⟩, List.mem_of_getElem? (i := 614) (by decide +kernel), List.mem_of_getElem? (i := 879) (by decide +kernel), List.mem_of_getElem? (i := 880) (by decide +kernel)⟩
theorem lw_p44 : lw_okq (⟨"SungSlidesModel", "allPoints", "()I"⟩, 16) := ⟨⟨by decide +kernel, by decide +kernel⟩, List.mem_of_getElem? (i := 614) (by decide +kernel), List.mem_of_getElem? (i := 883) (by decide +kernel), List.mem_of_getElem? (i := 884) (by decide +kernel)⟩
theorem lw_p45 : lw_okq (⟨"SungSlidesModel", "mostPoints", "()I"⟩, 16) := ⟨⟨by decide +kernel, by decide +kernel⟩, List.mem_of_getElem? (i := 614) (by decide +kernel), List.mem_of_getElem? (i := 887) (by decide +kernel), List.mem_of_getElem? (i := 888) (by decide +kernel)⟩
theorem lw_p46 : lw_okq (⟨"SungSlidesModel", "pointsShifted", "(II)I"⟩, 16) := ⟨⟨by decide +kernel, by decide +kernel⟩, List.mem_of_getElem? (i := 614) (by decide +kernel), List.mem_of_getElem? (i := 895) (by decide +kernel), List.mem_of_getElem? (i := 896) (by decide +kernel)⟩
def lw_privs_3 : List (MethodName × Nat) := [(⟨"SungSlidesModel", "isSyllable", "(I)Z"⟩, 16), (⟨"SungSlidesModel", "readText", "(Z)Z"⟩, 16), (⟨"SungSlidesModel", "readSyllable", "()Z"⟩, 16), (⟨"SungSlidesModel", "takes", "(I)Z"⟩, 16), (⟨"SungSlidesModel", "isNext", "(II)Z"⟩, 16), (⟨"SungSlidesModel", "readNumber", "(III)Z"⟩, 16), (⟨"SungSlidesModel", "phraseOf", "(I)I"⟩, 16), (⟨"SungSlidesModel", "syllableAt", "(I)I"⟩, 16), (⟨"SungSlidesModel", "phrases", "()I"⟩, 16), (⟨"SungSlidesModel", "ofPhrase", "(II)I"⟩, 16), (⟨"SungSlidesModel", "sungTicks", "()I"⟩, 16), (⟨"SungSlidesModel", "onsets", "()I"⟩, 16), (⟨"SungSlidesModel", "allPoints", "()I"⟩, 16), (⟨"SungSlidesModel", "mostPoints", "()I"⟩, 16), (⟨"SungSlidesModel", "pointsShifted", "(II)I"⟩, 16)]
theorem lw_r3 : ∀ q ∈ lw_privs_3, lw_okq q := List.forall_mem_cons.mpr ⟨lw_p32, List.forall_mem_cons.mpr ⟨lw_p33, List.forall_mem_cons.mpr ⟨lw_p34, List.forall_mem_cons.mpr ⟨lw_p35, List.forall_mem_cons.mpr ⟨lw_p36, List.forall_mem_cons.mpr ⟨lw_p37, List.forall_mem_cons.mpr ⟨lw_p38, List.forall_mem_cons.mpr ⟨lw_p39, List.forall_mem_cons.mpr ⟨lw_p40, List.forall_mem_cons.mpr ⟨lw_p41, List.forall_mem_cons.mpr ⟨lw_p42, List.forall_mem_cons.mpr ⟨lw_p43, List.forall_mem_cons.mpr ⟨lw_p44, List.forall_mem_cons.mpr ⟨lw_p45, List.forall_mem_cons.mpr ⟨lw_p46, fun _ h => absurd h List.not_mem_nil⟩⟩⟩⟩⟩⟩⟩⟩⟩⟩⟩⟩⟩⟩⟩
def lw_privs : List (MethodName × Nat) := lw_privs_1 ++ (lw_privs_2 ++ (lw_privs_3))
def lw_tbl : List Cond := k2_sels lw_privs ++ tables_1
theorem lw_privs_ok : ∀ q ∈ lw_privs, lw_okq q := by
  show ∀ q ∈ lw_privs_1 ++ (lw_privs_2 ++ (lw_privs_3)), lw_okq q
  exact List.forall_mem_append.mpr ⟨lw_r1, List.forall_mem_append.mpr ⟨lw_r2, lw_r3⟩⟩

def RX0 : String := "SungSlides$History"
def TX0 : u_T := fun k => match k with
  | 0 => ("SungSlides$History", "states", "[LSungSlides$State;", true)
  | _ => ("SungSlides$History", "count", "I", false)
def tyX0 : Nat → FieldType := fun k => match k with
  | 0 => .array (.object "SungSlides$State")
  | _ => .int
abbrev wsX00 : List Cond := u_ws RX0 TX0 2
theorem nmX0 : ∀ a, a < 2 → ∀ b, b < 2 → a ≠ b → (TX0 a).2.1 ≠ (TX0 b).2.1 := by decide +kernel
theorem tyX0_ok : ∀ k, k < 2 → parseFieldDescriptor (TX0 k).2.2.1 = some (tyX0 k) := by decide +kernel
abbrev cX0_init : ByteArray := prog_2_method_1_code
def yX0_init : MethodName := ⟨RX0, "<init>", "()V"⟩
abbrev cX0_size : ByteArray := prog_2_method_2_code
def yX0_size : MethodName := ⟨RX0, "size", "()I"⟩
abbrev cX0_record : ByteArray := prog_2_method_3_code
def yX0_record : MethodName := ⟨RX0, "record", "(LSungSlides$State;)V"⟩
abbrev cX0_dropOldest : ByteArray := prog_2_method_4_code
def yX0_dropOldest : MethodName := ⟨RX0, "dropOldest", "()V"⟩
abbrev cX0_takeBackInto : ByteArray := prog_2_method_5_code
def yX0_takeBackInto : MethodName := ⟨RX0, "takeBackInto", "(LSungSlides$State;)I"⟩
def RX1 : String := "SungSlides$Judge"
def TX1 : u_T := fun k => match k with
  | 0 => ("SungSlides$Judge", "matches", "[I", true)
  | 1 => ("SungSlides$Judge", "shares", "[I", true)
  | 2 => ("SungSlides$Judge", "heldLines", "[I", true)
  | 3 => ("SungSlides$Judge", "onsets", "[I", true)
  | 4 => ("SungSlides$Judge", "reasons", "[I", true)
  | 5 => ("SungSlides$Judge", "rowsAhead", "[I", true)
  | 6 => ("SungSlides$Judge", "syllablePoints", "[I", true)
  | 7 => ("SungSlides$Judge", "phraseHits", "[I", true)
  | 8 => ("SungSlides$Judge", "phrasePoints", "[I", true)
  | 9 => ("SungSlides$Judge", "longestRows", "[I", true)
  | 10 => ("SungSlides$Judge", "hits", "I", false)
  | _ => ("SungSlides$Judge", "points", "I", false)
def tyX1 : Nat → FieldType := fun k => match k with
  | 0 => .array .int
  | 1 => .array .int
  | 2 => .array .int
  | 3 => .array .int
  | 4 => .array .int
  | 5 => .array .int
  | 6 => .array .int
  | 7 => .array .int
  | 8 => .array .int
  | 9 => .array .int
  | 10 => .int
  | _ => .int
abbrev wsX10 : List Cond := u_ws RX1 TX1 12
theorem nmX1 : ∀ a, a < 12 → ∀ b, b < 12 → a ≠ b → (TX1 a).2.1 ≠ (TX1 b).2.1 := by decide +kernel
theorem tyX1_ok : ∀ k, k < 12 → parseFieldDescriptor (TX1 k).2.2.1 = some (tyX1 k) := by decide +kernel
abbrev cX1_init : ByteArray := prog_3_method_1_code
def yX1_init : MethodName := ⟨RX1, "<init>", "()V"⟩
abbrev cX1_judge : ByteArray := prog_3_method_2_code
def yX1_judge : MethodName := ⟨RX1, "judge", "(LSungSlides$State;)V"⟩
abbrev cX1_judgePerfect : ByteArray := prog_3_method_3_code
def yX1_judgePerfect : MethodName := ⟨RX1, "judgePerfect", "(LSungSlides$State;)V"⟩
abbrev cX1_hear : ByteArray := prog_3_method_4_code
def yX1_hear : MethodName := ⟨RX1, "hear", "(LSungSlides$State;I)V"⟩
abbrev cX1_isBarLine : ByteArray := prog_3_method_5_code
def yX1_isBarLine : MethodName := ⟨RX1, "isBarLine", "(II)Z"⟩
abbrev cX1_reasonFor : ByteArray := prog_3_method_6_code
def yX1_reasonFor : MethodName := ⟨RX1, "reasonFor", "(III)I"⟩
abbrev cX1_score : ByteArray := prog_3_method_7_code
def yX1_score : MethodName := ⟨RX1, "score", "(LSungSlides$Song;)V"⟩
abbrev cX1_beginPhrase : ByteArray := prog_3_method_8_code
def yX1_beginPhrase : MethodName := ⟨RX1, "beginPhrase", "(I)V"⟩
abbrev cX1_scoreOf : ByteArray := prog_3_method_9_code
def yX1_scoreOf : MethodName := ⟨RX1, "scoreOf", "(LSungSlides$Song;I)I"⟩
abbrev cX1_extraOf : ByteArray := prog_3_method_10_code
def yX1_extraOf : MethodName := ⟨RX1, "extraOf", "(II)I"⟩
abbrev cX1_valueIn : ByteArray := prog_3_method_11_code
def yX1_valueIn : MethodName := ⟨RX1, "valueIn", "([II)I"⟩
abbrev cX1_matchesOf : ByteArray := prog_3_method_12_code
def yX1_matchesOf : MethodName := ⟨RX1, "matchesOf", "(I)I"⟩
abbrev cX1_shareOf : ByteArray := prog_3_method_13_code
def yX1_shareOf : MethodName := ⟨RX1, "shareOf", "(I)I"⟩
abbrev cX1_onsetOf : ByteArray := prog_3_method_14_code
def yX1_onsetOf : MethodName := ⟨RX1, "onsetOf", "(I)I"⟩
abbrev cX1_reasonOf : ByteArray := prog_3_method_15_code
def yX1_reasonOf : MethodName := ⟨RX1, "reasonOf", "(I)I"⟩
abbrev cX1_pointsOf : ByteArray := prog_3_method_16_code
def yX1_pointsOf : MethodName := ⟨RX1, "pointsOf", "(I)I"⟩
abbrev cX1_rowAheadOf : ByteArray := prog_3_method_17_code
def yX1_rowAheadOf : MethodName := ⟨RX1, "rowAheadOf", "(I)I"⟩
abbrev cX1_phraseHitsOf : ByteArray := prog_3_method_18_code
def yX1_phraseHitsOf : MethodName := ⟨RX1, "phraseHitsOf", "(I)I"⟩
abbrev cX1_phrasePointsOf : ByteArray := prog_3_method_19_code
def yX1_phrasePointsOf : MethodName := ⟨RX1, "phrasePointsOf", "(I)I"⟩
abbrev cX1_longestRowOf : ByteArray := prog_3_method_20_code
def yX1_longestRowOf : MethodName := ⟨RX1, "longestRowOf", "(I)I"⟩
def RX2 : String := "SungSlides$Reader"
def TX2 : u_T := fun k => match k with
  | 0 => ("SungSlides$Reader", "place", "I", false)
  | 1 => ("SungSlides$Reader", "hasFault", "Z", false)
  | _ => ("SungSlides$Reader", "isTooLong", "Z", false)
def tyX2 : Nat → FieldType := fun k => match k with
  | 0 => .int
  | 1 => .boolean
  | _ => .boolean
abbrev wsX20 : List Cond := u_ws RX2 TX2 3
theorem nmX2 : ∀ a, a < 3 → ∀ b, b < 3 → a ≠ b → (TX2 a).2.1 ≠ (TX2 b).2.1 := by decide +kernel
theorem tyX2_ok : ∀ k, k < 3 → parseFieldDescriptor (TX2 k).2.2.1 = some (tyX2 k) := by decide +kernel
abbrev cX2_init : ByteArray := prog_4_method_1_code
def yX2_init : MethodName := ⟨RX2, "<init>", "()V"⟩
abbrev cX2_readInto : ByteArray := prog_4_method_2_code
def yX2_readInto : MethodName := ⟨RX2, "readInto", "(LSungSlides$Song;LSungSlides$Text;)V"⟩
abbrev cX2_readSyllable : ByteArray := prog_4_method_3_code
def yX2_readSyllable : MethodName := ⟨RX2, "readSyllable", "(LSungSlides$Song;LSungSlides$Text;Z)Z"⟩
abbrev cX2_skip : ByteArray := prog_4_method_4_code
def yX2_skip : MethodName := ⟨RX2, "skip", "(LSungSlides$Text;C)Z"⟩
abbrev cX2_readNumber : ByteArray := prog_4_method_5_code
def yX2_readNumber : MethodName := ⟨RX2, "readNumber", "(LSungSlides$Text;II)I"⟩
def RX3 : String := "SungSlides$Song"
def TX3 : u_T := fun k => match k with
  | 0 => ("SungSlides$Song", "beginnings", "[I", true)
  | 1 => ("SungSlides$Song", "lengths", "[I", true)
  | 2 => ("SungSlides$Song", "pitches", "[I", true)
  | 3 => ("SungSlides$Song", "endPitches", "[I", true)
  | 4 => ("SungSlides$Song", "phrases", "[I", true)
  | _ => ("SungSlides$Song", "count", "I", false)
def tyX3 : Nat → FieldType := fun k => match k with
  | 0 => .array .int
  | 1 => .array .int
  | 2 => .array .int
  | 3 => .array .int
  | 4 => .array .int
  | _ => .int
abbrev wsX30 : List Cond := u_ws RX3 TX3 6
theorem nmX3 : ∀ a, a < 6 → ∀ b, b < 6 → a ≠ b → (TX3 a).2.1 ≠ (TX3 b).2.1 := by decide +kernel
theorem tyX3_ok : ∀ k, k < 6 → parseFieldDescriptor (TX3 k).2.2.1 = some (tyX3 k) := by decide +kernel
abbrev cX3_init : ByteArray := prog_5_method_1_code
def yX3_init : MethodName := ⟨RX3, "<init>", "()V"⟩
abbrev cX3_size : ByteArray := prog_5_method_2_code
def yX3_size : MethodName := ⟨RX3, "size", "()I"⟩
abbrev cX3_has : ByteArray := prog_5_method_3_code
def yX3_has : MethodName := ⟨RX3, "has", "(I)Z"⟩
abbrev cX3_beginningOf : ByteArray := prog_5_method_4_code
def yX3_beginningOf : MethodName := ⟨RX3, "beginningOf", "(I)I"⟩
abbrev cX3_lengthOf : ByteArray := prog_5_method_5_code
def yX3_lengthOf : MethodName := ⟨RX3, "lengthOf", "(I)I"⟩
abbrev cX3_pitchOf : ByteArray := prog_5_method_6_code
def yX3_pitchOf : MethodName := ⟨RX3, "pitchOf", "(I)I"⟩
abbrev cX3_endPitchOf : ByteArray := prog_5_method_7_code
def yX3_endPitchOf : MethodName := ⟨RX3, "endPitchOf", "(I)I"⟩
abbrev cX3_phraseOf : ByteArray := prog_5_method_8_code
def yX3_phraseOf : MethodName := ⟨RX3, "phraseOf", "(I)I"⟩
abbrev cX3_ticks : ByteArray := prog_5_method_9_code
def yX3_ticks : MethodName := ⟨RX3, "ticks", "()I"⟩
abbrev cX3_phraseCount : ByteArray := prog_5_method_10_code
def yX3_phraseCount : MethodName := ⟨RX3, "phraseCount", "()I"⟩
abbrev cX3_firstOfPhrase : ByteArray := prog_5_method_11_code
def yX3_firstOfPhrase : MethodName := ⟨RX3, "firstOfPhrase", "(I)I"⟩
abbrev cX3_sizeOfPhrase : ByteArray := prog_5_method_12_code
def yX3_sizeOfPhrase : MethodName := ⟨RX3, "sizeOfPhrase", "(I)I"⟩
abbrev cX3_beginsPhrase : ByteArray := prog_5_method_13_code
def yX3_beginsPhrase : MethodName := ⟨RX3, "beginsPhrase", "(I)Z"⟩
abbrev cX3_wantedOf : ByteArray := prog_5_method_14_code
def yX3_wantedOf : MethodName := ⟨RX3, "wantedOf", "(II)I"⟩
abbrev cX3_barLinesOf : ByteArray := prog_5_method_15_code
def yX3_barLinesOf : MethodName := ⟨RX3, "barLinesOf", "(II)I"⟩
abbrev cX3_hasRoomFor : ByteArray := prog_5_method_16_code
def yX3_hasRoomFor : MethodName := ⟨RX3, "hasRoomFor", "(II)Z"⟩
abbrev cX3_append : ByteArray := prog_5_method_17_code
def yX3_append : MethodName := ⟨RX3, "append", "(IIIIZ)I"⟩
abbrev cX3_removeLast : ByteArray := prog_5_method_18_code
def yX3_removeLast : MethodName := ⟨RX3, "removeLast", "()I"⟩
abbrev cX3_clear : ByteArray := prog_5_method_19_code
def yX3_clear : MethodName := ⟨RX3, "clear", "()V"⟩
abbrev cX3_copyFrom : ByteArray := prog_5_method_20_code
def yX3_copyFrom : MethodName := ⟨RX3, "copyFrom", "(LSungSlides$Song;)V"⟩
def RX4 : String := "SungSlides$State"
def TX4 : u_T := fun k => match k with
  | 0 => ("SungSlides$State", "song", "LSungSlides$Song;", true)
  | 1 => ("SungSlides$State", "settings", "[I", true)
  | _ => ("SungSlides$State", "pitches", "[I", true)
def tyX4 : Nat → FieldType := fun k => match k with
  | 0 => .object "SungSlides$Song"
  | 1 => .array .int
  | _ => .array .int
abbrev wsX40 : List Cond := u_ws RX4 TX4 3
theorem nmX4 : ∀ a, a < 3 → ∀ b, b < 3 → a ≠ b → (TX4 a).2.1 ≠ (TX4 b).2.1 := by decide +kernel
theorem tyX4_ok : ∀ k, k < 3 → parseFieldDescriptor (TX4 k).2.2.1 = some (tyX4 k) := by decide +kernel
abbrev cX4_init : ByteArray := prog_6_method_1_code
def yX4_init : MethodName := ⟨RX4, "<init>", "()V"⟩
abbrev cX4_copyFrom : ByteArray := prog_6_method_2_code
def yX4_copyFrom : MethodName := ⟨RX4, "copyFrom", "(LSungSlides$State;)V"⟩
abbrev cX4_setting : ByteArray := prog_6_method_3_code
def yX4_setting : MethodName := ⟨RX4, "setting", "(I)I"⟩
abbrev cX4_change : ByteArray := prog_6_method_4_code
def yX4_change : MethodName := ⟨RX4, "change", "(II)V"⟩
abbrev cX4_sungAt : ByteArray := prog_6_method_5_code
def yX4_sungAt : MethodName := ⟨RX4, "sungAt", "(I)I"⟩
abbrev cX4_voiceAt : ByteArray := prog_6_method_6_code
def yX4_voiceAt : MethodName := ⟨RX4, "voiceAt", "(II)V"⟩
abbrev cX4_voice : ByteArray := prog_6_method_7_code
def yX4_voice : MethodName := ⟨RX4, "voice", "(III)V"⟩
abbrev cX4_voiceAsWanted : ByteArray := prog_6_method_8_code
def yX4_voiceAsWanted : MethodName := ⟨RX4, "voiceAsWanted", "(II)V"⟩
abbrev cX4_voiceShifted : ByteArray := prog_6_method_9_code
def yX4_voiceShifted : MethodName := ⟨RX4, "voiceShifted", "(LSungSlides$State;II)V"⟩
abbrev cX4_soundingTicks : ByteArray := prog_6_method_10_code
def yX4_soundingTicks : MethodName := ⟨RX4, "soundingTicks", "()I"⟩
abbrev cX4_isOnset : ByteArray := prog_6_method_11_code
def yX4_isOnset : MethodName := ⟨RX4, "isOnset", "(I)Z"⟩
abbrev cX4_onsets : ByteArray := prog_6_method_12_code
def yX4_onsets : MethodName := ⟨RX4, "onsets", "()I"⟩
abbrev cX4_onsetNear : ByteArray := prog_6_method_13_code
def yX4_onsetNear : MethodName := ⟨RX4, "onsetNear", "(I)I"⟩
abbrev cX4_isMatch : ByteArray := prog_6_method_14_code
def yX4_isMatch : MethodName := ⟨RX4, "isMatch", "(II)Z"⟩
def RX5 : String := "SungSlides$Text"
def TX5 : u_T := fun k => match k with
  | 0 => ("SungSlides$Text", "characters", "[C", true)
  | _ => ("SungSlides$Text", "count", "I", false)
def tyX5 : Nat → FieldType := fun k => match k with
  | 0 => .array .char
  | _ => .int
abbrev wsX50 : List Cond := u_ws RX5 TX5 2
theorem nmX5 : ∀ a, a < 2 → ∀ b, b < 2 → a ≠ b → (TX5 a).2.1 ≠ (TX5 b).2.1 := by decide +kernel
theorem tyX5_ok : ∀ k, k < 2 → parseFieldDescriptor (TX5 k).2.2.1 = some (tyX5 k) := by decide +kernel
abbrev cX5_init : ByteArray := prog_7_method_1_code
def yX5_init : MethodName := ⟨RX5, "<init>", "()V"⟩
abbrev cX5_size : ByteArray := prog_7_method_2_code
def yX5_size : MethodName := ⟨RX5, "size", "()I"⟩
abbrev cX5_isFull : ByteArray := prog_7_method_3_code
def yX5_isFull : MethodName := ⟨RX5, "isFull", "()Z"⟩
abbrev cX5_append : ByteArray := prog_7_method_4_code
def yX5_append : MethodName := ⟨RX5, "append", "(C)I"⟩
abbrev cX5_empty : ByteArray := prog_7_method_5_code
def yX5_empty : MethodName := ⟨RX5, "empty", "()I"⟩
abbrev cX5_hasAt : ByteArray := prog_7_method_6_code
def yX5_hasAt : MethodName := ⟨RX5, "hasAt", "(IC)Z"⟩
abbrev cX5_digitAt : ByteArray := prog_7_method_7_code
def yX5_digitAt : MethodName := ⟨RX5, "digitAt", "(I)I"⟩
def RX6 : String := "SungSlides"
def TX6 : u_T := fun k => match k with
  | 0 => ("SungSlides", "now", "LSungSlides$State;", true)
  | 1 => ("SungSlides", "would", "LSungSlides$State;", true)
  | 2 => ("SungSlides", "snapshot", "LSungSlides$State;", true)
  | 3 => ("SungSlides", "hasSnapshot", "Z", false)
  | 4 => ("SungSlides", "history", "LSungSlides$History;", true)
  | 5 => ("SungSlides", "text", "LSungSlides$Text;", true)
  | 6 => ("SungSlides", "reader", "LSungSlides$Reader;", true)
  | _ => ("SungSlides", "judge", "LSungSlides$Judge;", true)
def tyX6 : Nat → FieldType := fun k => match k with
  | 0 => .object "SungSlides$State"
  | 1 => .object "SungSlides$State"
  | 2 => .object "SungSlides$State"
  | 3 => .boolean
  | 4 => .object "SungSlides$History"
  | 5 => .object "SungSlides$Text"
  | 6 => .object "SungSlides$Reader"
  | _ => .object "SungSlides$Judge"
abbrev wsX60 : List Cond := u_ws RX6 TX6 8
theorem nmX6 : ∀ a, a < 8 → ∀ b, b < 8 → a ≠ b → (TX6 a).2.1 ≠ (TX6 b).2.1 := by decide +kernel
theorem tyX6_ok : ∀ k, k < 8 → parseFieldDescriptor (TX6 k).2.2.1 = some (tyX6 k) := by decide +kernel
abbrev cX6_init : ByteArray := prog_1_method_1_code
def yX6_init : MethodName := ⟨RX6, "<init>", "()V"⟩
abbrev cX6_add : ByteArray := prog_1_method_2_code
def yX6_add : MethodName := ⟨RX6, "add", "(IIIIZ)I"⟩
abbrev cX6_drop : ByteArray := prog_1_method_3_code
def yX6_drop : MethodName := ⟨RX6, "drop", "()I"⟩
abbrev cX6_read : ByteArray := prog_1_method_4_code
def yX6_read : MethodName := ⟨RX6, "read", "()I"⟩
abbrev cX6_set : ByteArray := prog_1_method_5_code
def yX6_set : MethodName := ⟨RX6, "set", "(II)I"⟩
abbrev cX6_sing : ByteArray := prog_1_method_6_code
def yX6_sing : MethodName := ⟨RX6, "sing", "(III)I"⟩
abbrev cX6_silence : ByteArray := prog_1_method_7_code
def yX6_silence : MethodName := ⟨RX6, "silence", "(II)I"⟩
abbrev cX6_singAlong : ByteArray := prog_1_method_8_code
def yX6_singAlong : MethodName := ⟨RX6, "singAlong", "(III)I"⟩
abbrev cX6_type : ByteArray := prog_1_method_9_code
def yX6_type : MethodName := ⟨RX6, "type", "(C)I"⟩
abbrev cX6_clearText : ByteArray := prog_1_method_10_code
def yX6_clearText : MethodName := ⟨RX6, "clearText", "()I"⟩
abbrev cX6_undo : ByteArray := prog_1_method_11_code
def yX6_undo : MethodName := ⟨RX6, "undo", "()I"⟩
abbrev cX6_keep : ByteArray := prog_1_method_12_code
def yX6_keep : MethodName := ⟨RX6, "keep", "()I"⟩
abbrev cX6_restore : ByteArray := prog_1_method_13_code
def yX6_restore : MethodName := ⟨RX6, "restore", "()I"⟩
abbrev cX6_syllable : ByteArray := prog_1_method_14_code
def yX6_syllable : MethodName := ⟨RX6, "syllable", "(II)I"⟩
abbrev cX6_wanted : ByteArray := prog_1_method_15_code
def yX6_wanted : MethodName := ⟨RX6, "wanted", "(I)I"⟩
abbrev cX6_sung : ByteArray := prog_1_method_16_code
def yX6_sung : MethodName := ⟨RX6, "sung", "(I)I"⟩
abbrev cX6_lit : ByteArray := prog_1_method_17_code
def yX6_lit : MethodName := ⟨RX6, "lit", "(II)I"⟩
abbrev cX6_phrase : ByteArray := prog_1_method_18_code
def yX6_phrase : MethodName := ⟨RX6, "phrase", "(II)I"⟩
abbrev cX6_total : ByteArray := prog_1_method_19_code
def yX6_total : MethodName := ⟨RX6, "total", "(I)I"⟩
abbrev cX6_ifShifted : ByteArray := prog_1_method_20_code
def yX6_ifShifted : MethodName := ⟨RX6, "ifShifted", "(II)I"⟩
abbrev cX6_bestShift : ByteArray := prog_1_method_21_code
def yX6_bestShift : MethodName := ⟨RX6, "bestShift", "()I"⟩
abbrev cX6_ifSet : ByteArray := prog_1_method_22_code
def yX6_ifSet : MethodName := ⟨RX6, "ifSet", "(II)I"⟩
abbrev cX6_worst : ByteArray := prog_1_method_23_code
def yX6_worst : MethodName := ⟨RX6, "worst", "()I"⟩
abbrev cX6_isWithin : ByteArray := prog_1_method_24_code
def yX6_isWithin : MethodName := ⟨RX6, "isWithin", "(III)Z"⟩
abbrev cX6_isSetting : ByteArray := prog_1_method_25_code
def yX6_isSetting : MethodName := ⟨RX6, "isSetting", "(I)Z"⟩
abbrev cX6_isValueOf : ByteArray := prog_1_method_26_code
def yX6_isValueOf : MethodName := ⟨RX6, "isValueOf", "(II)Z"⟩
abbrev cX6_areTicks : ByteArray := prog_1_method_27_code
def yX6_areTicks : MethodName := ⟨RX6, "areTicks", "(III)Z"⟩
abbrev cX6_hitsNow : ByteArray := prog_1_method_28_code
def yX6_hitsNow : MethodName := ⟨RX6, "hitsNow", "()I"⟩
abbrev cX6_pointsOf : ByteArray := prog_1_method_29_code
def yX6_pointsOf : MethodName := ⟨RX6, "pointsOf", "(LSungSlides$State;)I"⟩
abbrev cX6_mostPoints : ByteArray := prog_1_method_30_code
def yX6_mostPoints : MethodName := ⟨RX6, "mostPoints", "()I"⟩
abbrev cX6_pointsIfShifted : ByteArray := prog_1_method_31_code
def yX6_pointsIfShifted : MethodName := ⟨RX6, "pointsIfShifted", "(II)I"⟩
def RX7 : String := "SungSlidesModel"
def TX7 : u_T := fun k => match k with
  | 0 => ("SungSlidesModel", "s", "[I", true)
  | 1 => ("SungSlidesModel", "history", "[I", true)
  | 2 => ("SungSlidesModel", "kept", "I", false)
  | 3 => ("SungSlidesModel", "snapshot", "[I", true)
  | 4 => ("SungSlidesModel", "isTaken", "Z", false)
  | 5 => ("SungSlidesModel", "text", "[C", true)
  | 6 => ("SungSlidesModel", "length", "I", false)
  | 7 => ("SungSlidesModel", "heard", "[I", true)
  | 8 => ("SungSlidesModel", "matching", "[I", true)
  | 9 => ("SungSlidesModel", "onset", "[I", true)
  | 10 => ("SungSlidesModel", "why", "[I", true)
  | 11 => ("SungSlidesModel", "row", "[I", true)
  | 12 => ("SungSlidesModel", "points", "[I", true)
  | 13 => ("SungSlidesModel", "place", "I", false)
  | 14 => ("SungSlidesModel", "told", "[I", true)
  | _ => ("SungSlidesModel", "ticksOfText", "I", false)
def tyX7 : Nat → FieldType := fun k => match k with
  | 0 => .array .int
  | 1 => .array .int
  | 2 => .int
  | 3 => .array .int
  | 4 => .boolean
  | 5 => .array .char
  | 6 => .int
  | 7 => .array .int
  | 8 => .array .int
  | 9 => .array .int
  | 10 => .array .int
  | 11 => .array .int
  | 12 => .array .int
  | 13 => .int
  | 14 => .array .int
  | _ => .int
abbrev wsX70 : List Cond := u_ws RX7 TX7 16
theorem nmX7 : ∀ a, a < 16 → ∀ b, b < 16 → a ≠ b → (TX7 a).2.1 ≠ (TX7 b).2.1 := by decide +kernel
theorem tyX7_ok : ∀ k, k < 16 → parseFieldDescriptor (TX7 k).2.2.1 = some (tyX7 k) := by decide +kernel
abbrev cX7_init : ByteArray := prog_9_method_1_code
def yX7_init : MethodName := ⟨RX7, "<init>", "()V"⟩
abbrev cX7_in : ByteArray := prog_9_method_3_code
def yX7_in : MethodName := ⟨RX7, "in", "(III)Z"⟩
abbrev cX7_size : ByteArray := prog_9_method_4_code
def yX7_size : MethodName := ⟨RX7, "size", "(I)I"⟩
abbrev cX7_isPitch : ByteArray := prog_9_method_5_code
def yX7_isPitch : MethodName := ⟨RX7, "isPitch", "(I)Z"⟩
abbrev cX7_isTick : ByteArray := prog_9_method_6_code
def yX7_isTick : MethodName := ⟨RX7, "isTick", "(I)Z"⟩
abbrev cX7_isSyllable : ByteArray := prog_9_method_7_code
def yX7_isSyllable : MethodName := ⟨RX7, "isSyllable", "(I)Z"⟩
abbrev cX7_of : ByteArray := prog_9_method_8_code
def yX7_of : MethodName := ⟨RX7, "of", "(II)I"⟩
abbrev cX7_lay : ByteArray := prog_9_method_9_code
def yX7_lay : MethodName := ⟨RX7, "lay", "(III)V"⟩
abbrev cX7_copy : ByteArray := prog_9_method_10_code
def yX7_copy : MethodName := ⟨RX7, "copy", "([II[II)V"⟩
abbrev cX7_record : ByteArray := prog_9_method_11_code
def yX7_record : MethodName := ⟨RX7, "record", "()V"⟩
abbrev cX7_behind : ByteArray := prog_9_method_12_code
def yX7_behind : MethodName := ⟨RX7, "behind", "(I)I"⟩
abbrev cX7_endOfSong : ByteArray := prog_9_method_13_code
def yX7_endOfSong : MethodName := ⟨RX7, "endOfSong", "()I"⟩
abbrev cX7_wantedIn : ByteArray := prog_9_method_14_code
def yX7_wantedIn : MethodName := ⟨RX7, "wantedIn", "(II)I"⟩
abbrev cX7_syllableAt : ByteArray := prog_9_method_15_code
def yX7_syllableAt : MethodName := ⟨RX7, "syllableAt", "(I)I"⟩
abbrev cX7_phraseOf : ByteArray := prog_9_method_16_code
def yX7_phraseOf : MethodName := ⟨RX7, "phraseOf", "(I)I"⟩
abbrev cX7_phrases : ByteArray := prog_9_method_17_code
def yX7_phrases : MethodName := ⟨RX7, "phrases", "()I"⟩
abbrev cX7_hear : ByteArray := prog_9_method_18_code
def yX7_hear : MethodName := ⟨RX7, "hear", "(II)V"⟩
abbrev cX7_isOnset : ByteArray := prog_9_method_19_code
def yX7_isOnset : MethodName := ⟨RX7, "isOnset", "(I)Z"⟩
abbrev cX7_matches : ByteArray := prog_9_method_20_code
def yX7_matches : MethodName := ⟨RX7, "matches", "(II)Z"⟩
abbrev cX7_nearestOnset : ByteArray := prog_9_method_21_code
def yX7_nearestOnset : MethodName := ⟨RX7, "nearestOnset", "(I)I"⟩
abbrev cX7_share : ByteArray := prog_9_method_22_code
def yX7_share : MethodName := ⟨RX7, "share", "(I)I"⟩
abbrev cX7_reasonOf : ByteArray := prog_9_method_23_code
def yX7_reasonOf : MethodName := ⟨RX7, "reasonOf", "(I)I"⟩
abbrev cX7_bars : ByteArray := prog_9_method_24_code
def yX7_bars : MethodName := ⟨RX7, "bars", "(IZ)I"⟩
abbrev cX7_pointsOf : ByteArray := prog_9_method_25_code
def yX7_pointsOf : MethodName := ⟨RX7, "pointsOf", "(I)I"⟩
abbrev cX7_judge : ByteArray := prog_9_method_26_code
def yX7_judge : MethodName := ⟨RX7, "judge", "()V"⟩
abbrev cX7_judgeSong : ByteArray := prog_9_method_27_code
def yX7_judgeSong : MethodName := ⟨RX7, "judgeSong", "()V"⟩
abbrev cX7_ofPhrase : ByteArray := prog_9_method_28_code
def yX7_ofPhrase : MethodName := ⟨RX7, "ofPhrase", "(II)I"⟩
abbrev cX7_allPoints : ByteArray := prog_9_method_29_code
def yX7_allPoints : MethodName := ⟨RX7, "allPoints", "()I"⟩
abbrev cX7_hits : ByteArray := prog_9_method_30_code
def yX7_hits : MethodName := ⟨RX7, "hits", "()I"⟩
abbrev cX7_mostPoints : ByteArray := prog_9_method_31_code
def yX7_mostPoints : MethodName := ⟨RX7, "mostPoints", "()I"⟩
abbrev cX7_addError : ByteArray := prog_9_method_32_code
def yX7_addError : MethodName := ⟨RX7, "addError", "(III)I"⟩
abbrev cX7_doAdd : ByteArray := prog_9_method_33_code
def yX7_doAdd : MethodName := ⟨RX7, "doAdd", "(IIIII)I"⟩
abbrev cX7_add : ByteArray := prog_9_method_34_code
def yX7_add : MethodName := ⟨RX7, "add", "(IIIIZ)I"⟩
abbrev cX7_drop : ByteArray := prog_9_method_35_code
def yX7_drop : MethodName := ⟨RX7, "drop", "()I"⟩
abbrev cX7_settingError : ByteArray := prog_9_method_36_code
def yX7_settingError : MethodName := ⟨RX7, "settingError", "(II)I"⟩
abbrev cX7_set : ByteArray := prog_9_method_37_code
def yX7_set : MethodName := ⟨RX7, "set", "(II)I"⟩
abbrev cX7_sing : ByteArray := prog_9_method_38_code
def yX7_sing : MethodName := ⟨RX7, "sing", "(III)I"⟩
abbrev cX7_silence : ByteArray := prog_9_method_39_code
def yX7_silence : MethodName := ⟨RX7, "silence", "(II)I"⟩
abbrev cX7_singAlong : ByteArray := prog_9_method_40_code
def yX7_singAlong : MethodName := ⟨RX7, "singAlong", "(III)I"⟩
abbrev cX7_type : ByteArray := prog_9_method_41_code
def yX7_type : MethodName := ⟨RX7, "type", "(C)I"⟩
abbrev cX7_clearText : ByteArray := prog_9_method_42_code
def yX7_clearText : MethodName := ⟨RX7, "clearText", "()I"⟩
abbrev cX7_isNext : ByteArray := prog_9_method_43_code
def yX7_isNext : MethodName := ⟨RX7, "isNext", "(II)Z"⟩
abbrev cX7_takes : ByteArray := prog_9_method_44_code
def yX7_takes : MethodName := ⟨RX7, "takes", "(I)Z"⟩
abbrev cX7_readNumber : ByteArray := prog_9_method_45_code
def yX7_readNumber : MethodName := ⟨RX7, "readNumber", "(III)Z"⟩
abbrev cX7_readSyllable : ByteArray := prog_9_method_46_code
def yX7_readSyllable : MethodName := ⟨RX7, "readSyllable", "()Z"⟩
abbrev cX7_readText : ByteArray := prog_9_method_47_code
def yX7_readText : MethodName := ⟨RX7, "readText", "(Z)Z"⟩
abbrev cX7_read : ByteArray := prog_9_method_48_code
def yX7_read : MethodName := ⟨RX7, "read", "()I"⟩
abbrev cX7_undo : ByteArray := prog_9_method_49_code
def yX7_undo : MethodName := ⟨RX7, "undo", "()I"⟩
abbrev cX7_keep : ByteArray := prog_9_method_50_code
def yX7_keep : MethodName := ⟨RX7, "keep", "()I"⟩
abbrev cX7_restore : ByteArray := prog_9_method_51_code
def yX7_restore : MethodName := ⟨RX7, "restore", "()I"⟩
abbrev cX7_syllable : ByteArray := prog_9_method_52_code
def yX7_syllable : MethodName := ⟨RX7, "syllable", "(II)I"⟩
abbrev cX7_wanted : ByteArray := prog_9_method_53_code
def yX7_wanted : MethodName := ⟨RX7, "wanted", "(I)I"⟩
abbrev cX7_sung : ByteArray := prog_9_method_54_code
def yX7_sung : MethodName := ⟨RX7, "sung", "(I)I"⟩
abbrev cX7_lit : ByteArray := prog_9_method_55_code
def yX7_lit : MethodName := ⟨RX7, "lit", "(II)I"⟩
abbrev cX7_phrase : ByteArray := prog_9_method_56_code
def yX7_phrase : MethodName := ⟨RX7, "phrase", "(II)I"⟩
abbrev cX7_sungTicks : ByteArray := prog_9_method_57_code
def yX7_sungTicks : MethodName := ⟨RX7, "sungTicks", "()I"⟩
abbrev cX7_onsets : ByteArray := prog_9_method_58_code
def yX7_onsets : MethodName := ⟨RX7, "onsets", "()I"⟩
abbrev cX7_total : ByteArray := prog_9_method_59_code
def yX7_total : MethodName := ⟨RX7, "total", "(I)I"⟩
abbrev cX7_pointsShifted : ByteArray := prog_9_method_60_code
def yX7_pointsShifted : MethodName := ⟨RX7, "pointsShifted", "(II)I"⟩
abbrev cX7_ifShifted : ByteArray := prog_9_method_61_code
def yX7_ifShifted : MethodName := ⟨RX7, "ifShifted", "(II)I"⟩
abbrev cX7_bestShift : ByteArray := prog_9_method_62_code
def yX7_bestShift : MethodName := ⟨RX7, "bestShift", "()I"⟩
abbrev cX7_ifSet : ByteArray := prog_9_method_63_code
def yX7_ifSet : MethodName := ⟨RX7, "ifSet", "(II)I"⟩
abbrev cX7_worst : ByteArray := prog_9_method_64_code
def yX7_worst : MethodName := ⟨RX7, "worst", "()I"⟩
def RL : String := "SungSlidesLaw"
abbrev cL_law : ByteArray := code
def yL_law : MethodName := ⟨RL, "law", "([I)Z"⟩
abbrev vwCl : List vw_C := [(RX0, TX0, 2), (RX1, TX1, 12), (RX2, TX2, 3), (RX3, TX3, 6), (RX4, TX4, 3), (RX5, TX5, 2), (RX6, TX6, 8), (RX7, TX7, 16)]
