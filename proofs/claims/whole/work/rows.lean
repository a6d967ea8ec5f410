section
-- ===== PART A: goes FIRST, ahead of the names: the tables' words, and 'selects' of the private methods out of them =====
/-- a private method of a class that the tables say can be made, by its rows of tables_1 -/
def lw_okq (q : MethodName × Nat) : Prop := (q.1.cls ≠ "java/lang/invoke/MethodHandle" ∧ q.1.cls ≠ "java/lang/invoke/VarHandle") ∧ Cond.instantiable q.1.cls q.2 ∈ tables_1 ∧ Cond.privateMethod q.1 ∈ tables_1 ∧ Cond.instanceMethod q.1 ∈ tables_1
theorem lw_p0 : lw_okq (⟨"MapSongs", "xAhead", "(I)I"⟩, 11) := ⟨⟨by decide +kernel, by decide +kernel⟩, List.mem_of_getElem? (i := 11) (by decide +kernel), List.mem_of_getElem? (i := 67) (by decide +kernel), List.mem_of_getElem? (i := 68) (by decide +kernel)⟩
theorem lw_p1 : lw_okq (⟨"MapSongs", "yAhead", "(I)I"⟩, 11) := ⟨⟨by decide +kernel, by decide +kernel⟩, List.mem_of_getElem? (i := 11) (by decide +kernel), List.mem_of_getElem? (i := 75) (by decide +kernel), List.mem_of_getElem? (i := 76) (by decide +kernel)⟩
theorem lw_p2 : lw_okq (⟨"MapSongs", "endsWhereItWas", "(I)Z"⟩, 11) := ⟨⟨by decide +kernel, by decide +kernel⟩, List.mem_of_getElem? (i := 11) (by decide +kernel), List.mem_of_getElem? (i := 95) (by decide +kernel), List.mem_of_getElem? (i := 96) (by decide +kernel)⟩
theorem lw_p3 : lw_okq (⟨"MapSongs", "checkLeg", "(I)V"⟩, 11) := ⟨⟨by decide +kernel, by decide +kernel⟩, List.mem_of_getElem? (i := 11) (by decide +kernel), List.mem_of_getElem? (i := 111) (by decide +kernel), List.mem_of_getElem? (i := 112) (by decide +kernel)⟩
theorem lw_p4 : lw_okq (⟨"java/lang/Throwable", "fillInStackTrace", "(I)Ljava/lang/Throwable;"⟩, 6) := ⟨⟨by decide +kernel, by decide +kernel⟩, List.mem_of_getElem? (i := 153) (by decide +kernel), List.mem_of_getElem? (i := 151) (by decide +kernel), List.mem_of_getElem? (i := 152) (by decide +kernel)⟩
theorem lw_p5 : lw_okq (⟨"MapSongs", "noteAhead", "(I)I"⟩, 11) := ⟨⟨by decide +kernel, by decide +kernel⟩, List.mem_of_getElem? (i := 11) (by decide +kernel), List.mem_of_getElem? (i := 183) (by decide +kernel), List.mem_of_getElem? (i := 184) (by decide +kernel)⟩
theorem lw_p6 : lw_okq (⟨"MapSongs", "landmarksNamed", "(II)I"⟩, 11) := ⟨⟨by decide +kernel, by decide +kernel⟩, List.mem_of_getElem? (i := 11) (by decide +kernel), List.mem_of_getElem? (i := 215) (by decide +kernel), List.mem_of_getElem? (i := 216) (by decide +kernel)⟩
theorem lw_p7 : lw_okq (⟨"MapSongs", "unmendedWith", "(III)I"⟩, 11) := ⟨⟨by decide +kernel, by decide +kernel⟩, List.mem_of_getElem? (i := 11) (by decide +kernel), List.mem_of_getElem? (i := 235) (by decide +kernel), List.mem_of_getElem? (i := 236) (by decide +kernel)⟩
theorem lw_p8 : lw_okq (⟨"MapSongs", "sharesWordIf", "(III)Z"⟩, 11) := ⟨⟨by decide +kernel, by decide +kernel⟩, List.mem_of_getElem? (i := 11) (by decide +kernel), List.mem_of_getElem? (i := 239) (by decide +kernel), List.mem_of_getElem? (i := 240) (by decide +kernel)⟩
theorem lw_p9 : lw_okq (⟨"MapSongs", "wordIf", "(III)I"⟩, 11) := ⟨⟨by decide +kernel, by decide +kernel⟩, List.mem_of_getElem? (i := 11) (by decide +kernel), List.mem_of_getElem? (i := 243) (by decide +kernel), List.mem_of_getElem? (i := 244) (by decide +kernel)⟩
theorem lw_p10 : lw_okq (⟨"MapSongs", "digestOfLeg", "(JI)J"⟩, 11) := ⟨⟨by decide +kernel, by decide +kernel⟩, List.mem_of_getElem? (i := 11) (by decide +kernel), List.mem_of_getElem? (i := 270) (by decide +kernel), List.mem_of_getElem? (i := 271) (by decide +kernel)⟩
theorem lw_p11 : lw_okq (⟨"MapSongs", "follow", "(I)V"⟩, 11) := ⟨⟨by decide +kernel, by decide +kernel⟩, List.mem_of_getElem? (i := 11) (by decide +kernel), List.mem_of_getElem? (i := 362) (by decide +kernel), List.mem_of_getElem? (i := 363) (by decide +kernel)⟩
theorem lw_p12 : lw_okq (⟨"MapSongs", "headingAhead", "(I)I"⟩, 11) := ⟨⟨by decide +kernel, by decide +kernel⟩, List.mem_of_getElem? (i := 11) (by decide +kernel), List.mem_of_getElem? (i := 366) (by decide +kernel), List.mem_of_getElem? (i := 367) (by decide +kernel)⟩
theorem lw_p13 : lw_okq (⟨"MapSongs", "dropMarks", "()V"⟩, 11) := ⟨⟨by decide +kernel, by decide +kernel⟩, List.mem_of_getElem? (i := 11) (by decide +kernel), List.mem_of_getElem? (i := 393) (by decide +kernel), List.mem_of_getElem? (i := 394) (by decide +kernel)⟩
theorem lw_p14 : lw_okq (⟨"MapSongs", "mostAmbiguous", "()I"⟩, 11) := ⟨⟨by decide +kernel, by decide +kernel⟩, List.mem_of_getElem? (i := 11) (by decide +kernel), List.mem_of_getElem? (i := 487) (by decide +kernel), List.mem_of_getElem? (i := 488) (by decide +kernel)⟩
theorem lw_p15 : lw_okq (⟨"MapSongsModel", "no", "(I)I"⟩, 11) := ⟨⟨by decide +kernel, by decide +kernel⟩, List.mem_of_getElem? (i := 502) (by decide +kernel), List.mem_of_getElem? (i := 556) (by decide +kernel), List.mem_of_getElem? (i := 557) (by decide +kernel)⟩
def lw_privs_1 : List (MethodName × Nat) := [(⟨"MapSongs", "xAhead", "(I)I"⟩, 11), (⟨"MapSongs", "yAhead", "(I)I"⟩, 11), (⟨"MapSongs", "endsWhereItWas", "(I)Z"⟩, 11), (⟨"MapSongs", "checkLeg", "(I)V"⟩, 11), (⟨"java/lang/Throwable", "fillInStackTrace", "(I)Ljava/lang/Throwable;"⟩, 6), (⟨"MapSongs", "noteAhead", "(I)I"⟩, 11), (⟨"MapSongs", "landmarksNamed", "(II)I"⟩, 11), (⟨"MapSongs", "unmendedWith", "(III)I"⟩, 11), (⟨"MapSongs", "sharesWordIf", "(III)Z"⟩, 11), (⟨"MapSongs", "wordIf", "(III)I"⟩, 11), (⟨"MapSongs", "digestOfLeg", "(JI)J"⟩, 11), (⟨"MapSongs", "follow", "(I)V"⟩, 11), (⟨"MapSongs", "headingAhead", "(I)I"⟩, 11), (⟨"MapSongs", "dropMarks", "()V"⟩, 11), (⟨"MapSongs", "mostAmbiguous", "()I"⟩, 11), (⟨"MapSongsModel", "no", "(I)I"⟩, 11)]
theorem lw_r1 : ∀ q ∈ lw_privs_1, lw_okq q := List.forall_mem_cons.mpr ⟨lw_p0, List.forall_mem_cons.mpr ⟨lw_p1, List.forall_mem_cons.mpr ⟨lw_p2, List.forall_mem_cons.mpr ⟨lw_p3, List.forall_mem_cons.mpr ⟨lw_p4, List.forall_mem_cons.mpr ⟨lw_p5, List.forall_mem_cons.mpr ⟨lw_p6, List.forall_mem_cons.mpr ⟨lw_p7, List.forall_mem_cons.mpr ⟨lw_p8, List.forall_mem_cons.mpr ⟨lw_p9, List.forall_mem_cons.mpr ⟨lw_p10, List.forall_mem_cons.mpr ⟨lw_p11, List.forall_mem_cons.mpr ⟨lw_p12, List.forall_mem_cons.mpr ⟨lw_p13, List.forall_mem_cons.mpr ⟨lw_p14, List.forall_mem_cons.mpr ⟨lw_p15, fun _ h => absurd h List.not_mem_nil⟩⟩⟩⟩⟩⟩⟩⟩⟩⟩⟩⟩⟩⟩⟩⟩
theorem lw_p16 : lw_okq (⟨"MapSongsModel", "isLeg", "(I)Z"⟩, 11) := ⟨⟨by decide +kernel, by decide +kernel⟩, List.mem_of_getElem? (i := 502) (by decide +kernel), List.mem_of_getElem? (i := 568) (by decide +kernel), List.mem_of_getElem? (i := 569) (by decide +kernel)⟩
theorem lw_p17 : lw_okq (⟨"MapSongsModel", "ok", "(I)I"⟩, 11) := ⟨⟨by decide +kernel, by decide +kernel⟩, List.mem_of_getElem? (i := 502) (by decide +kernel), List.mem_of_getElem? (i := 584) (by decide +kernel), List.mem_of_getElem? (i := 585) (by decide +kernel)⟩
theorem lw_p18 : lw_okq (⟨"MapSongsModel", "endOf", "([I)I"⟩, 11) := ⟨⟨by decide +kernel, by decide +kernel⟩, List.mem_of_getElem? (i := 502) (by decide +kernel), List.mem_of_getElem? (i := 596) (by decide +kernel), List.mem_of_getElem? (i := 597) (by decide +kernel)⟩
theorem lw_p19 : lw_okq (⟨"MapSongsModel", "walk", "()V"⟩, 11) := ⟨⟨by decide +kernel, by decide +kernel⟩, List.mem_of_getElem? (i := 502) (by decide +kernel), List.mem_of_getElem? (i := 600) (by decide +kernel), List.mem_of_getElem? (i := 601) (by decide +kernel)⟩
theorem lw_p20 : lw_okq (⟨"MapSongsModel", "heading", "(I)I"⟩, 11) := ⟨⟨by decide +kernel, by decide +kernel⟩, List.mem_of_getElem? (i := 502) (by decide +kernel), List.mem_of_getElem? (i := 606) (by decide +kernel), List.mem_of_getElem? (i := 607) (by decide +kernel)⟩
theorem lw_p21 : lw_okq (⟨"MapSongsModel", "home", "()I"⟩, 11) := ⟨⟨by decide +kernel, by decide +kernel⟩, List.mem_of_getElem? (i := 502) (by decide +kernel), List.mem_of_getElem? (i := 618) (by decide +kernel), List.mem_of_getElem? (i := 619) (by decide +kernel)⟩
theorem lw_p22 : lw_okq (⟨"MapSongsModel", "back", "()I"⟩, 11) := ⟨⟨by decide +kernel, by decide +kernel⟩, List.mem_of_getElem? (i := 502) (by decide +kernel), List.mem_of_getElem? (i := 628) (by decide +kernel), List.mem_of_getElem? (i := 629) (by decide +kernel)⟩
theorem lw_p23 : lw_okq (⟨"MapSongsModel", "noteNow", "(I)I"⟩, 11) := ⟨⟨by decide +kernel, by decide +kernel⟩, List.mem_of_getElem? (i := 502) (by decide +kernel), List.mem_of_getElem? (i := 648) (by decide +kernel), List.mem_of_getElem? (i := 649) (by decide +kernel)⟩
theorem lw_p24 : lw_okq (⟨"MapSongsModel", "sing", "(I)V"⟩, 11) := ⟨⟨by decide +kernel, by decide +kernel⟩, List.mem_of_getElem? (i := 502) (by decide +kernel), List.mem_of_getElem? (i := 652) (by decide +kernel), List.mem_of_getElem? (i := 653) (by decide +kernel)⟩
theorem lw_p25 : lw_okq (⟨"MapSongsModel", "isFoldedNow", "(I)Z"⟩, 11) := ⟨⟨by decide +kernel, by decide +kernel⟩, List.mem_of_getElem? (i := 502) (by decide +kernel), List.mem_of_getElem? (i := 663) (by decide +kernel), List.mem_of_getElem? (i := 664) (by decide +kernel)⟩
theorem lw_p26 : lw_okq (⟨"MapSongsModel", "isNot", "(I)Z"⟩, 11) := ⟨⟨by decide +kernel, by decide +kernel⟩, List.mem_of_getElem? (i := 502) (by decide +kernel), List.mem_of_getElem? (i := 667) (by decide +kernel), List.mem_of_getElem? (i := 668) (by decide +kernel)⟩
theorem lw_p27 : lw_okq (⟨"MapSongsModel", "allBeats", "()I"⟩, 11) := ⟨⟨by decide +kernel, by decide +kernel⟩, List.mem_of_getElem? (i := 502) (by decide +kernel), List.mem_of_getElem? (i := 683) (by decide +kernel), List.mem_of_getElem? (i := 684) (by decide +kernel)⟩
theorem lw_p28 : lw_okq (⟨"MapSongsModel", "foldedNow", "()I"⟩, 11) := ⟨⟨by decide +kernel, by decide +kernel⟩, List.mem_of_getElem? (i := 502) (by decide +kernel), List.mem_of_getElem? (i := 691) (by decide +kernel), List.mem_of_getElem? (i := 692) (by decide +kernel)⟩
theorem lw_p29 : lw_okq (⟨"MapSongsModel", "wide", "()I"⟩, 11) := ⟨⟨by decide +kernel, by decide +kernel⟩, List.mem_of_getElem? (i := 502) (by decide +kernel), List.mem_of_getElem? (i := 699) (by decide +kernel), List.mem_of_getElem? (i := 700) (by decide +kernel)⟩
theorem lw_p30 : lw_okq (⟨"MapSongsModel", "manyNow", "(I)I"⟩, 11) := ⟨⟨by decide +kernel, by decide +kernel⟩, List.mem_of_getElem? (i := 502) (by decide +kernel), List.mem_of_getElem? (i := 712) (by decide +kernel), List.mem_of_getElem? (i := 713) (by decide +kernel)⟩
theorem lw_p31 : lw_okq (⟨"MapSongsModel", "many", "(II)I"⟩, 11) := ⟨⟨by decide +kernel, by decide +kernel⟩, List.mem_of_getElem? (i := 502) (by decide +kernel), List.mem_of_getElem? (i := 716) (by decide +kernel), List.mem_of_getElem? (i := 717) (by decide +kernel)⟩
def lw_privs_2 : List (MethodName × Nat) := [(⟨"MapSongsModel", "isLeg", "(I)Z"⟩, 11), (⟨"MapSongsModel", "ok", "(I)I"⟩, 11), (⟨"MapSongsModel", "endOf", "([I)I"⟩, 11), (⟨"MapSongsModel", "walk", "()V"⟩, 11), (⟨"MapSongsModel", "heading", "(I)I"⟩, 11), (⟨"MapSongsModel", "home", "()I"⟩, 11), (⟨"MapSongsModel", "back", "()I"⟩, 11), (⟨"MapSongsModel", "noteNow", "(I)I"⟩, 11), (⟨"MapSongsModel", "sing", "(I)V"⟩, 11), (⟨"MapSongsModel", "isFoldedNow", "(I)Z"⟩, 11), (⟨"MapSongsModel", "isNot", "(I)Z"⟩, 11), (⟨"MapSongsModel", "allBeats", "()I"⟩, 11), (⟨"MapSongsModel", "foldedNow", "()I"⟩, 11), (⟨"MapSongsModel", "wide", "()I"⟩, 11), (⟨"MapSongsModel", "manyNow", "(I)I"⟩, 11), (⟨"MapSongsModel", "many", "(II)I"⟩, 11)]
theorem lw_r2 : ∀ q ∈ lw_privs_2, lw_okq q := List.forall_mem_cons.mpr ⟨lw_p16, List.forall_mem_cons.mpr ⟨lw_p17, List.forall_mem_cons.mpr ⟨lw_p18, List.forall_mem_cons.mpr ⟨lw_p19, List.forall_mem_cons.mpr ⟨lw_p20, List.forall_mem_cons.mpr ⟨lw_p21, List.forall_mem_cons.mpr ⟨lw_p22, List.forall_mem_cons.mpr ⟨lw_p23, List.forall_mem_cons.mpr ⟨lw_p24, List.forall_mem_cons.mpr ⟨lw_p25, List.forall_mem_cons.mpr ⟨lw_p26, List.forall_mem_cons.mpr ⟨lw_p27, List.forall_mem_cons.mpr ⟨lw_p28, List.forall_mem_cons.mpr ⟨lw_p29, List.forall_mem_cons.mpr ⟨lw_p30, List.forall_mem_cons.mpr ⟨lw_p31, fun _ h => absurd h List.not_mem_nil⟩⟩⟩⟩⟩⟩⟩⟩⟩⟩⟩⟩⟩⟩⟩⟩
theorem lw_p32 : lw_okq (⟨"MapSongsModel", "isTwofold", "(II)Z"⟩, 11) := ⟨⟨by decide +kernel, by decide +kernel⟩, List.mem_of_getElem? (i := 502) (by decide +kernel), List.mem_of_getElem? (i := 720) (by decide +kernel), List.mem_of_getElem? (i := 721) (by decide +kernel)⟩
theorem lw_p33 : lw_okq (⟨"MapSongsModel", "alike", "(I)I"⟩, 11) := ⟨⟨by decide +kernel, by decide +kernel⟩, List.mem_of_getElem? (i := 502) (by decide +kernel), List.mem_of_getElem? (i := 724) (by decide +kernel), List.mem_of_getElem? (i := 725) (by decide +kernel)⟩
theorem lw_p34 : lw_okq (⟨"MapSongsModel", "right", "(I)I"⟩, 11) := ⟨⟨by decide +kernel, by decide +kernel⟩, List.mem_of_getElem? (i := 502) (by decide +kernel), List.mem_of_getElem? (i := 732) (by decide +kernel), List.mem_of_getElem? (i := 733) (by decide +kernel)⟩
theorem lw_p35 : lw_okq (⟨"MapSongsModel", "isOpen", "(I)Z"⟩, 11) := ⟨⟨by decide +kernel, by decide +kernel⟩, List.mem_of_getElem? (i := 502) (by decide +kernel), List.mem_of_getElem? (i := 740) (by decide +kernel), List.mem_of_getElem? (i := 741) (by decide +kernel)⟩
theorem lw_p36 : lw_okq (⟨"MapSongsModel", "isMendedNow", "(I)Z"⟩, 11) := ⟨⟨by decide +kernel, by decide +kernel⟩, List.mem_of_getElem? (i := 502) (by decide +kernel), List.mem_of_getElem? (i := 744) (by decide +kernel), List.mem_of_getElem? (i := 745) (by decide +kernel)⟩
theorem lw_p37 : lw_okq (⟨"MapSongsModel", "all", "()J"⟩, 11) := ⟨⟨by decide +kernel, by decide +kernel⟩, List.mem_of_getElem? (i := 502) (by decide +kernel), List.mem_of_getElem? (i := 761) (by decide +kernel), List.mem_of_getElem? (i := 762) (by decide +kernel)⟩
theorem lw_p38 : lw_okq (⟨"MapSongsModel", "open", "()I"⟩, 11) := ⟨⟨by decide +kernel, by decide +kernel⟩, List.mem_of_getElem? (i := 502) (by decide +kernel), List.mem_of_getElem? (i := 771) (by decide +kernel), List.mem_of_getElem? (i := 772) (by decide +kernel)⟩
theorem lw_p39 : lw_okq (⟨"MapSongsModel", "firstOpen", "()I"⟩, 11) := ⟨⟨by decide +kernel, by decide +kernel⟩, List.mem_of_getElem? (i := 502) (by decide +kernel), List.mem_of_getElem? (i := 783) (by decide +kernel), List.mem_of_getElem? (i := 784) (by decide +kernel)⟩
theorem lw_p40 : lw_okq (⟨"MapSongsModel", "openWith", "(II)I"⟩, 11) := ⟨⟨by decide +kernel, by decide +kernel⟩, List.mem_of_getElem? (i := 502) (by decide +kernel), List.mem_of_getElem? (i := 791) (by decide +kernel), List.mem_of_getElem? (i := 792) (by decide +kernel)⟩
theorem lw_p41 : lw_okq (⟨"MapSongsModel", "openBy", "(I)I"⟩, 11) := ⟨⟨by decide +kernel, by decide +kernel⟩, List.mem_of_getElem? (i := 502) (by decide +kernel), List.mem_of_getElem? (i := 795) (by decide +kernel), List.mem_of_getElem? (i := 796) (by decide +kernel)⟩
theorem lw_p42 : lw_okq (⟨"MapSongsModel", "wordFor", "(I)I"⟩, 11) := ⟨⟨by decide +kernel, by decide +kernel⟩, List.mem_of_getElem? (i := 502) (by decide +kernel), List.mem_of_getElem? (i := 803) (by decide +kernel), List.mem_of_getElem? (i := 804) (by decide +kernel)⟩
theorem lw_p43 : lw_okq (⟨"MapSongsModel", "stepFor", "()I"⟩, 11) := ⟨⟨by decide +kernel, by decide +kernel⟩, List.mem_of_getElem? (i := 502) (by decide +kernel), List.mem_of_getElem? (i := 811) (by decide +kernel), List.mem_of_getElem? (i := 812) (by decide +kernel)⟩
def lw_privs_3 : List (MethodName × Nat) := [(⟨"MapSongsModel", "isTwofold", "(II)Z"⟩, 11), (⟨"MapSongsModel", "alike", "(I)I"⟩, 11), (⟨"MapSongsModel", "right", "(I)I"⟩, 11), (⟨"MapSongsModel", "isOpen", "(I)Z"⟩, 11), (⟨"MapSongsModel", "isMendedNow", "(I)Z"⟩, 11), (⟨"MapSongsModel", "all", "()J"⟩, 11), (⟨"MapSongsModel", "open", "()I"⟩, 11), (⟨"MapSongsModel", "firstOpen", "()I"⟩, 11), (⟨"MapSongsModel", "openWith", "(II)I"⟩, 11), (⟨"MapSongsModel", "openBy", "(I)I"⟩, 11), (⟨"MapSongsModel", "wordFor", "(I)I"⟩, 11), (⟨"MapSongsModel", "stepFor", "()I"⟩, 11)]
theorem lw_r3 : ∀ q ∈ lw_privs_3, lw_okq q := List.forall_mem_cons.mpr ⟨lw_p32, List.forall_mem_cons.mpr ⟨lw_p33, List.forall_mem_cons.mpr ⟨lw_p34, List.forall_mem_cons.mpr ⟨lw_p35, List.forall_mem_cons.mpr ⟨lw_p36, List.forall_mem_cons.mpr ⟨lw_p37, List.forall_mem_cons.mpr ⟨lw_p38, List.forall_mem_cons.mpr ⟨lw_p39, List.forall_mem_cons.mpr ⟨lw_p40, List.forall_mem_cons.mpr ⟨lw_p41, List.forall_mem_cons.mpr ⟨lw_p42, List.forall_mem_cons.mpr ⟨lw_p43, fun _ h => absurd h List.not_mem_nil⟩⟩⟩⟩⟩⟩⟩⟩⟩⟩⟩⟩
def lw_privs : List (MethodName × Nat) := lw_privs_1 ++ (lw_privs_2 ++ (lw_privs_3))
def lw_tbl : List Cond := k2_sels lw_privs ++ tables_1
theorem lw_privs_ok : ∀ q ∈ lw_privs, lw_okq q := by
  show ∀ q ∈ lw_privs_1 ++ (lw_privs_2 ++ (lw_privs_3)), lw_okq q
  exact List.forall_mem_append.mpr ⟨lw_r1, List.forall_mem_append.mpr ⟨lw_r2, lw_r3⟩⟩
/-- the streams that the claim lets the run draw from -/
abbrev lw_cs : List Choice := [Jvm.Choice.named "NaN.bits"]
theorem lw_bits : nanBits ∈ lw_cs := by first | decide | exact List.mem_cons_self | simp [lw_cs, nanBits]
/-! from here to the end of the part: what the kit prints for this claim, without what is not used -/
/-! ===== BEGIN words of one list among another's, by their places ===== -/
theorem goodIn_r {big : List Cond} (ws : List Cond) (ps : List Nat) (hp : ws = ps.filterMap (fun i => big[i]?)) (h : ws.all goodWord = true) : GoodIn big ws := by
  intro w hw
  have h1 := List.all_eq_true.mp h w hw
  rw [hp] at hw
  obtain ⟨i, -, hi⟩ := List.mem_filterMap.mp hw
  have hm : w ∈ big := by first | exact List.mem_of_getElem? hi | exact List.getElem?_mem hi
  exact ⟨hm, good_of_word h1⟩
theorem goodIn_app {big a b : List Cond} (ha : GoodIn big a) (hb : GoodIn big b) : GoodIn big (a ++ b) := fun w h => (List.mem_append.mp h).elim (ha w) (hb w)
theorem goodIn_ca {big a b : List Cond} {c : Cond} (ha : GoodIn big (c :: a)) (hb : GoodIn big b) : GoodIn big (c :: (a ++ b)) := fun w h => (List.mem_cons.mp h).elim (fun e => ha w (List.mem_cons.mpr (Or.inl e))) (fun h => (List.mem_append.mp h).elim (fun h => ha w (List.mem_cons.mpr (Or.inr h))) (hb w))
theorem goodIn_sub {big ws : List Cond} (hm : ∀ w ∈ ws, w ∈ big) (h : ws.all goodWord = true) : GoodIn big ws := fun w hw => ⟨hm w hw, good_of_word (List.all_eq_true.mp h w hw)⟩
/-! ===== END ===== -/

/-! ===== BEGIN exceptions that leave a method, and their catching by the caller (launches without stack traces) ===== -/
section VXA
/-! The laws vx_back, vx_callV, vx_callS, vx_callSW, vx_throw0, vx_throwS follow proofs of the library, with one case more: JvmDerived/Free/Laws.lean (Back.of_free), Shelf42/LK1.lean (callV, callS), Shelf/KitTraced.lean (throwNew0V, throwNewS). -/
/-- where a method has thrown q: the class by its name, the cell, what was written, the world -/
def vx_T (XC : String → State → State → Prop) (st : State) (q : Addr) (t : State) (mc ms : Nat) (free : Addr → Prop) : Prop :=
  ∃ (E : String) (ce : Cell) (L : List Loc), XC E st t ∧ t.heap[q]? = some ce ∧ ce.vm = .none ∧ st.vm.findClass E = some ce.cls ∧ st.WarmedH t.vm ∧ st.sameButNew ({ t with vm := st.vm } : State) L mc ms ∧ ∀ z ∈ L, free z.base
def vx_Q (Qc : Array Value → State → Outcome → State → Prop) (XC : String → State → State → Prop) (mc ms : Nat) (free : Addr → Prop) : Array Value → State → Outcome → State → Prop := fun a st o t =>
  (Qc a st o t ∧ ∃ L, FrameEnd st o t L mc ms ∧ ∀ q ∈ L, free q.base) ∨ ∃ q, o = .threw q ∧ vx_T XC st q t mc ms free
/-- a callee that returns or throws -/
def vx_Met (l : Launch) (y : MethodName) (ws : List Cond) (rm : Room) (Pc : Array Value → State → Prop) (Qc : Array Value → State → Outcome → State → Prop) (XC : String → State → State → Prop) (mc ms : Nat) (free : Addr → Prop) : Prop :=
  MetFree l y (headSpec ws rm) Pc (fun _ _ _ _ _ => True) (vx_Q Qc XC mc ms free)
def vx_Post (XC : String → State → State → Prop) (mc ms : Nat) (free : Addr → Prop) : Pt → Array Value → Addr → Pt → Prop := fun A a q B =>
  ∃ (g : JFrame) (mk : MethodId) (t : State) (L : List Loc) (E : String) (ce : Cell), B.U.heap = t.heap ∧ B.U.vm = t.vm ∧ XC E (A.U.calling g mk a) t ∧ t.heap[q]? = some ce ∧ ce.vm = .none ∧ A.U.vm.findClass E = some ce.cls ∧ B.locs = A.locs ++ L ∧ (∀ z ∈ L, free z.base) ∧ B.cells = A.cells + mc ∧ B.slots = A.slots + ms
def vx_Back (l : Launch) (R : Room) (p : Program) (e : Env) (below : List Frame) (s : State) (sargs : Array Value) (y : MethodName) (len W9 : Nat)
    (Pre : Pt → Array Value → Prop) (Post : Pt → Array Value → Option Value → Pt → Prop) (PostX : Pt → Array Value → Addr → Pt → Prop) : Prop :=
  ∀ (m : MethodId) (meth : Method) (c : Code) (A : Pt) (g : JFrame) (ig : Instr) (mk : MethodId) (a : Array Value),
    Stand p l e R s m sargs below meth c A.U A.locs A.cells A.slots → g.method = m → g.locals.size = c.maxLocals → decode c.code g.pc = .ok (ig, len) →
    2 * g.monitorRoom + (g.stack.map fun v => v.category).sum ≤ W9 → A.U.methodNamed? y = some mk → Pre A a →
    (∃ (v : Option Value) (B : Pt), Stand p l e R s m sargs below meth c B.U B.locs B.cells B.slots ∧ Post A a v B ∧
      Steps p.tables e below (doInvoke e (A.U.setTop g) [] mk a).1 (B.U.setTop { g with pc := g.pc + len, stack := v.toList ++ g.stack })) ∨
    (∃ (q : Addr) (B : Pt), Stand p l e R s m sargs below meth c B.U B.locs B.cells B.slots ∧ PostX A a q B ∧
      Steps p.tables e below (doInvoke e (A.U.setTop g) [] mk a).1 ((B.U.setTop g).pushFrame (.throwing q)))
section Payer
variable {l : Launch} {R : Room} {p : Program} {e : Env} {below : List Frame} {s : State} {sargs : Array Value} {y : MethodName} {len W9 : Nat}
theorem vx_back {ws : List Cond} {rm : Room} {Pc : Array Value → State → Prop} {Qc : Array Value → State → Outcome → State → Prop} {XC : String → State → State → Prop} {mc ms : Nat} {free : Addr → Prop} {bytes : ByteArray} {maxL : Nat} {ret : Option FieldType}
    (hM : vx_Met l y ws rm Pc Qc XC mc ms free) (hblind : FrameBlind Pc) (hrc : rm.cells = mc) (hrs : rm.slots = ms)
    (hframes : rm.frames + 1 ≤ R.frames) (hlocals : W9 + (maxL + 11) + rm.locals ≤ R.locals)
    (hws : ∀ w ∈ ws, ∀ a' U, s.WarmedH U.vm → w.before a' U = true) (hcode : Cond.code y bytes maxL ret ∈ ws) (hinit : ∀ a' U, s.WarmedH U.vm → (Cond.initialized y.cls).before a' U = true) :
    vx_Back l R p e below s sargs y len W9 (PreOf R mc ms Pc) (PostOf Qc mc ms free) (vx_Post XC mc ms free) := by
  intro m meth c A g ig mk a X hg hsize hdg hW hn hp
  have h1 : (headSpec ws rm).pre.before a A.U = true := atoms_intro fun w hw => hws w hw _ _ X.warmed
  have h2 : (Cond.code y bytes maxL ret).before a A.U = true := hws _ hcode _ _ X.warmed
  have h3 : (Cond.initialized y.cls).before a A.U = true := hinit _ _ X.warmed
  have h4 : A.cells + (headSpec ws rm).room.cells ≤ R.cells := by rw [show (headSpec ws rm).room.cells = mc from hrc]; exact hp.1
  have h5 : A.slots + (headSpec ws rm).room.slots ≤ R.slots := by rw [show (headSpec ws rm).room.slots = ms from hrs]; exact hp.2.1
  have hPc : Pc a (A.U.calling g mk a) := hblind _ _ _ _ hp.2.2
  obtain ⟨U, Ls, c0, s0⟩ := A
  dsimp only [Pt.U, Pt.locs, Pt.cells, Pt.slots] at h1 h2 h3 h4 h5 X hn hPc ⊢
  obtain ⟨methY, cY, hmY, hcY, -, hlY, -, -, -, -⟩ := Cond.code_spec hn h2
  obtain ⟨kY, hkY, -⟩ := className_of_methodNamed hn
  have hinitY : kY.init = .initialized := Cond.initialized_spec (findClass_of_methodNamed hn) hkY h3
  have h : At U g.method c below := by rw [hg]; exact X.here
  have hlocals9 : W9 + (maxL + 11) + (headSpec ws rm).room.locals ≤ R.locals := hlocals
  have happ : (headSpec ws rm).appliesLoose y e.platform (U.calling g mk a) = true :=
    Spec.appliesLoose_calling (g := g) h hdg hn hkY hinitY
      (X.room_calling (g := g) (R' := (headSpec ws rm).room) hsize hmY hcY hframes (by rw [hlY]; omega) h4 h5) h1
  obtain ⟨mid, hmid⟩ := h.above
  have hfr : (U.setTop g).frames = (.java g :: mid) ++ below := by rw [State.frames_setTop' g h.top, hmid]; rfl
  obtain ⟨o, s₂, hsteps, -, hend, hq⟩ := Steps.callFree hM p X.admits X.cas X.clock (acts := []) hfr happ hPc trivial
  have hq' : vx_Q Qc XC mc ms free a (U.calling g mk a) o s₂ := hq
  rw [State.frames_setTop' g h.top] at hend
  obtain ⟨g₀, hg0⟩ := Option.isSome_iff_exists.mp h.top
  obtain ⟨r, hr⟩ := State.topJava?_eq_some.mp hg0
  have hr' : (({ U with heap := s₂.heap, slotsUsed := s₂.slotsUsed } : State).setVm s₂.vm).frames = .java g₀ :: r := hr
  rcases hq' with ⟨hqc, L, hfe, hL⟩ | ⟨q, rfl, E, ce, L, hx, hce, hcv, hcl, hW₂, hsm, hL⟩
  · obtain ⟨⟨v, rfl⟩, hW₂, e2, q2, q3, q4, q5, q6⟩ := id hfe
    have e3 : s₂ = ({ (U.calling g mk a).setFrames s₂.frames with heap := s₂.heap, slotsUsed := s₂.slotsUsed } : State).setVm s₂.vm := by
      have : s₂ = ({ s₂ with vm := (U.calling g mk a).vm } : State).setVm s₂.vm := rfl
      rw [e2] at this
      exact this
    obtain ⟨c₂, i₂, len₂, hc₂, hd₂, hf₂⟩ := hend
    have hW' : U.WarmedH s₂.vm := hW₂
    have hcc : c₂ = c := by
      have h1 : s₂.code? g.method = U.code? g.method := by
        rw [State.code?_eq, State.code?_eq, hW'.alike.method?]
      exact Option.some.inj (hc₂.symm.trans (h1.trans h.code))
    subst hcc
    have hlen : len₂ = len := by rw [hdg] at hd₂; cases hd₂; rfl
    subst hlen
    have hs₂ : s₂ = (({ U with heap := s₂.heap, slotsUsed := s₂.slotsUsed } : State).setVm s₂.vm).setTop { g with pc := g.pc + len₂, stack := v.toList ++ g.stack } := by
      refine e3.trans ?_
      rw [hf₂, State.calling_eq h.top, State.setFrames_setFrames, State.setTop_of_frames _ hr', hr]
      rfl
    have hsame : U.sameButNew ({ U with heap := s₂.heap, slotsUsed := s₂.slotsUsed } : State) L mc ms := by
      refine ⟨?_, q2, q3, q4, q5, q6⟩
      obtain ⟨t, ht, -⟩ := State.frames_cons hr
      show ({ U with heap := s₂.heap, slotsUsed := s₂.slotsUsed } : State) = { U.setFrames U.frames with heap := s₂.heap, slotsUsed := s₂.slotsUsed }
      rw [State.setFrames_self ht]
    subst hg
    refine Or.inl ⟨v, ⟨(({ U with heap := s₂.heap, slotsUsed := s₂.slotsUsed } : State).setVm s₂.vm), Ls ++ L, c0 + mc, s0 + ms⟩,
      ⟨X.admits, X.cas, X.clock, X.frames, X.room, X.hears, X.method, X.code, (X.here.setHeapUsed s₂.heap s₂.slotsUsed).setVm hW'.alike, X.tail, State.WarmedH.trans X.warmed hW', X.limits, X.bytes, X.same.trans (hsame.setVm s.vm)⟩,
      ⟨g, mk, s₂, L, rfl, rfl, hqc, rfl, hL, rfl, rfl⟩, ?_⟩
    show Steps p.tables e below _ ((({ U with heap := s₂.heap, slotsUsed := s₂.slotsUsed } : State).setVm s₂.vm).setTop { g with pc := g.pc + len₂, stack := v.toList ++ g.stack })
    rw [← hs₂]
    exact hsteps
  · obtain ⟨e2, q2, q3, q4, q5, q6⟩ := id hsm
    have e3 : s₂ = ({ (U.calling g mk a).setFrames s₂.frames with heap := s₂.heap, slotsUsed := s₂.slotsUsed } : State).setVm s₂.vm := by
      have : s₂ = ({ s₂ with vm := (U.calling g mk a).vm } : State).setVm s₂.vm := rfl
      rw [e2] at this
      exact this
    have hf₂ : s₂.frames = .throwing q :: .java g :: U.frames.tail := hend
    have hW' : U.WarmedH s₂.vm := hW₂
    have hs₂ : s₂ = ((({ U with heap := s₂.heap, slotsUsed := s₂.slotsUsed } : State).setVm s₂.vm).setTop g).pushFrame (.throwing q) := by
      refine e3.trans ?_
      rw [hf₂, State.calling_eq h.top, State.setFrames_setFrames, State.pushFrame, State.frames_setTop _ hr', State.setTop_of_frames _ hr', State.setFrames_setFrames, hr]
      rfl
    have hsame : U.sameButNew ({ U with heap := s₂.heap, slotsUsed := s₂.slotsUsed } : State) L mc ms := by
      refine ⟨?_, q2, q3, q4, q5, q6⟩
      obtain ⟨t, ht, -⟩ := State.frames_cons hr
      show ({ U with heap := s₂.heap, slotsUsed := s₂.slotsUsed } : State) = { U.setFrames U.frames with heap := s₂.heap, slotsUsed := s₂.slotsUsed }
      rw [State.setFrames_self ht]
    subst hg
    refine Or.inr ⟨q, ⟨(({ U with heap := s₂.heap, slotsUsed := s₂.slotsUsed } : State).setVm s₂.vm), Ls ++ L, c0 + mc, s0 + ms⟩,
      ⟨X.admits, X.cas, X.clock, X.frames, X.room, X.hears, X.method, X.code, (X.here.setHeapUsed s₂.heap s₂.slotsUsed).setVm hW'.alike, X.tail, State.WarmedH.trans X.warmed hW', X.limits, X.bytes, X.same.trans (hsame.setVm s.vm)⟩,
      ⟨g, mk, s₂, L, E, ce, rfl, rfl, hx, hce, hcv, hcl, rfl, hL, rfl, rfl⟩, ?_⟩
    show Steps p.tables e below _ (((({ U with heap := s₂.heap, slotsUsed := s₂.slotsUsed } : State).setVm s₂.vm).setTop g).pushFrame (.throwing q))
    rw [← hs₂]
    exact hsteps
end Payer
section Calls
variable {p : Program} {l : Launch} {e : Env} {R : Room} {s : State} {m : MethodId} {args : Array Value} {below : List Frame} {meth : Method} {c : Code} {T : State} {locs : List Loc} {cells slots : Nat}
theorem vx_callV (X : Stand p l e R s m args below meth c T locs cells slots) (hexec : p.tables.exec = Jvm.exec) {own C : String} {index : Nat} {y : MethodName} {bytes : ByteArray} {maxL : Nat} {ret : Option FieldType}
    (hown : s.vm.findClass own = some m.cls) (hlink : (Cond.methodLink own index y).before args s = true) (hinst : (Cond.instanceMethod y).before args s = true) (hsel : (Cond.selects C y y).before args s = true)
    (hcode : (Cond.code y bytes maxL ret).before args s = true) (hy : y.cls ≠ "java/lang/invoke/MethodHandle" ∧ y.cls ≠ "java/lang/invoke/VarHandle")
    {W9 : Nat} {Pre : Pt → Array Value → Prop} {Post : Pt → Array Value → Option Value → Pt → Prop} {PostX : Pt → Array Value → Addr → Pt → Prop} (hK : vx_Back l R p e below s args y 3 W9 Pre Post PostX)
    {b : Addr} {cellB : Cell} (hcell : T.heap[b]? = some cellB) (hobj : cellB.vm.isStatics = false) (hcls : s.vm.findClass C = some cellB.cls)
    {g : JFrame} (hg : g.method = m) (hsize : g.locals.size = c.maxLocals) {argsL rest : List Value} (hlen : ∀ sig, parseMethodDescriptor y.desc = some sig → argsL.length = sig.parameters.length)
    (hstack : g.stack = argsL.reverse ++ .ref b :: rest) (hW : 2 * g.monitorRoom + (rest.map fun v => v.category).sum ≤ W9) (hdg : decode c.code g.pc = .ok (.invokevirtual index, 3))
    (hpre : ∀ vm₁, s.WarmedH vm₁ → Pre ⟨T.setVm vm₁, locs, cells, slots⟩ (Value.ref b :: argsL).toArray) :
    (∃ (v : Option Value) (vm₁ : Vm) (B : Pt), s.WarmedH vm₁ ∧ Stand p l e R s m args below meth c B.U B.locs B.cells B.slots ∧ Post ⟨T.setVm vm₁, locs, cells, slots⟩ (Value.ref b :: argsL).toArray v B ∧
      ∀ target, Steps p.tables e below (B.U.setTop { g with pc := g.pc + 3, stack := v.toList ++ rest }) target → Steps p.tables e below (T.setTop g) target) ∨
    (∃ (q : Addr) (vm₁ : Vm) (B : Pt), s.WarmedH vm₁ ∧ Stand p l e R s m args below meth c B.U B.locs B.cells B.slots ∧ PostX ⟨T.setVm vm₁, locs, cells, slots⟩ (Value.ref b :: argsL).toArray q B ∧
      Steps p.tables e below (T.setTop g) ((B.U.setTop { g with stack := rest }).pushFrame (.throwing q))) := by
  obtain ⟨mk, methM, hnamed, hmethM, hstM, habM⟩ := Cond.instanceMethod_spec hinst
  obtain ⟨methM', cM, hmethM', -, -, -, -, -, -, hsigM⟩ := Cond.code_spec hnamed hcode
  cases hmethM.symm.trans hmethM'
  obtain ⟨c2, r2, m2, q1, q2, q3, q4, kP, hkP, hkPi⟩ := Cond.selects_spec hsel
  cases hcls.symm.trans q1
  cases (State.methodFound?_of_named hnamed hy).symm.trans q2
  cases hnamed.symm.trans q3
  have hselP : selectMethod e.platform s.vm cellB.cls mk = .method mk := by rw [Launch.admits_selectMethod X.admits]; exact q4
  obtain ⟨vm₁, X₁, hstep₁⟩ := X.invokevirtual hexec hown hlink hnamed hmethM hstM hkP hkPi hy (a := b) (cell := cellB) hcell
    (fun z h => by rw [h] at hobj; cases hobj) hselP hmethM habM hkP hkPi (g := g) hg (argsL := argsL) (rest := rest) (hlen _ hsigM) hstack hdg
  rcases hK m meth c ⟨T.setVm vm₁, locs, cells, slots⟩ { g with stack := rest } (.invokevirtual index) mk (Value.ref b :: argsL).toArray X₁ hg hsize hdg hW (X₁.named hnamed) (hpre vm₁ X₁.warmed) with ⟨v, B, X', hpost, hsteps⟩ | ⟨q, B, X', hpost, hsteps⟩
  · exact Or.inl ⟨v, vm₁, B, X₁.warmed, X', hpost, fun target h => hstep₁ _ fun acts => by rw [doInvoke_state]; exact hsteps.trans h⟩
  · exact Or.inr ⟨q, vm₁, B, X₁.warmed, X', hpost, hstep₁ _ fun acts => by rw [doInvoke_state]; exact hsteps⟩
theorem vx_callS (X : Stand p l e R s m args below meth c T locs cells slots) (hexec : p.tables.exec = Jvm.exec) {own : String} {index : Nat} {y : MethodName} {bytes : ByteArray} {maxL : Nat} {ret : Option FieldType}
    (hown : s.vm.findClass own = some m.cls) (hlink : (Cond.methodLink own index y).before args s = true) (hstat : (Cond.static y).before args s = true) (hinit : (Cond.initialized y.cls).before args s = true)
    (hcode : (Cond.code y bytes maxL ret).before args s = true) (hy : y.cls ≠ "java/lang/invoke/MethodHandle" ∧ y.cls ≠ "java/lang/invoke/VarHandle")
    {W9 : Nat} {Pre : Pt → Array Value → Prop} {Post : Pt → Array Value → Option Value → Pt → Prop} {PostX : Pt → Array Value → Addr → Pt → Prop} (hK : vx_Back l R p e below s args y 3 W9 Pre Post PostX)
    {g : JFrame} (hg : g.method = m) (hsize : g.locals.size = c.maxLocals) {argsL rest : List Value} (hlen : ∀ sig, parseMethodDescriptor y.desc = some sig → argsL.length = sig.parameters.length)
    (hstack : g.stack = argsL.reverse ++ rest) (hW : 2 * g.monitorRoom + (rest.map fun v => v.category).sum ≤ W9) (hdg : decode c.code g.pc = .ok (.invokestatic index, 3))
    (hpre : ∀ vm₁, s.WarmedH vm₁ → Pre ⟨T.setVm vm₁, locs, cells, slots⟩ argsL.toArray) :
    (∃ (v : Option Value) (vm₁ : Vm) (B : Pt), s.WarmedH vm₁ ∧ Stand p l e R s m args below meth c B.U B.locs B.cells B.slots ∧ Post ⟨T.setVm vm₁, locs, cells, slots⟩ argsL.toArray v B ∧
      ∀ target, Steps p.tables e below (B.U.setTop { g with pc := g.pc + 3, stack := v.toList ++ rest }) target → Steps p.tables e below (T.setTop g) target) ∨
    (∃ (q : Addr) (vm₁ : Vm) (B : Pt), s.WarmedH vm₁ ∧ Stand p l e R s m args below meth c B.U B.locs B.cells B.slots ∧ PostX ⟨T.setVm vm₁, locs, cells, slots⟩ argsL.toArray q B ∧
      Steps p.tables e below (T.setTop g) ((B.U.setTop { g with stack := rest }).pushFrame (.throwing q))) := by
  obtain ⟨mk, hnamed⟩ := Cond.code_named hcode
  obtain ⟨methM, cM, hmethM, -, -, -, -, -, -, hsigM⟩ := Cond.code_spec hnamed hcode
  have hstatic : methM.isStatic = true := Cond.static_spec hnamed hmethM hstat
  obtain ⟨kP, hkP, -⟩ := className_of_methodNamed hnamed
  have hinitP : kP.init = .initialized := Cond.initialized_spec (findClass_of_methodNamed hnamed) hkP hinit
  obtain ⟨vm₁, X₁, hstep₁⟩ := X.invokestatic hexec hown hlink hnamed hmethM hstatic hkP hinitP hy (g := g) hg (argsL := argsL) (rest := rest) (hlen _ hsigM) hstack hdg
  rcases hK m meth c ⟨T.setVm vm₁, locs, cells, slots⟩ { g with stack := rest } (.invokestatic index) mk argsL.toArray X₁ hg hsize hdg hW (X₁.named hnamed) (hpre vm₁ X₁.warmed) with ⟨v, B, X', hpost, hsteps⟩ | ⟨q, B, X', hpost, hsteps⟩
  · exact Or.inl ⟨v, vm₁, B, X₁.warmed, X', hpost, fun target h => hstep₁ _ fun acts => by rw [doInvoke_state]; exact hsteps.trans h⟩
  · exact Or.inr ⟨q, vm₁, B, X₁.warmed, X', hpost, hstep₁ _ fun acts => by rw [doInvoke_state]; exact hsteps⟩
end Calls
theorem vx_cls {s : State} {T : State} {vm₁ : Vm} {E : String} {k : ClassId} (hW : s.WarmedH vm₁) (h : (T.setVm vm₁).vm.findClass E = some k) : s.vm.findClass E = some k := by
  have h1 : vm₁.findClass E = some k := h
  rw [hW.alike.findClass] at h1
  exact h1
/-- the method's frame g, with q thrown over it -/
def vx_W (p : Program) (l : Launch) (e : Env) (R : Room) (s : State) (m : MethodId) (args : Array Value) (below : List Frame) (meth : Method) (c : Code) (H : Heap) (locs : List Loc) (cells slots : Nat) (Q : State → Prop) (g : JFrame) (q : Addr) : Prop :=
  ∀ T : State, T.heap = H → Stand p l e R s m args below meth c T locs cells slots → ∃ t, Steps p.tables e below ((T.setTop g).pushFrame (.throwing q)) t ∧ Q t
def vx_Run (p : Program) (l : Launch) (e : Env) (R : Room) (s : State) (m : MethodId) (args : Array Value) (below : List Frame) (meth : Method) (c : Code) (H : Heap) (locs : List Loc) (cells slots mc ms : Nat) (g : JFrame) (rest : List Value) (Qa : State → Outcome → State → Prop) (XC : String → State → State → Prop) (free : Addr → Prop) : Prop :=
  ∀ T : State, T.heap = H → Stand p l e R s m args below meth c T locs cells slots →
    (∃ (v : Option Value) (st₀ t T' : State) (L : List Loc), st₀.heap = H ∧ Stand p l e R s m args below meth c T' (locs ++ L) (cells + mc) (slots + ms) ∧ (∀ q ∈ L, free q.base) ∧ T'.heap = t.heap ∧ T'.vm = t.vm ∧ Qa st₀ (.returned v) t ∧
      Goes p e below T g T' { g with pc := g.pc + 3, stack := v.toList ++ rest }) ∨
    (∃ (q : Addr) (st₀ t T' : State) (L : List Loc) (E : String) (ce : Cell), st₀.heap = H ∧ Stand p l e R s m args below meth c T' (locs ++ L) (cells + mc) (slots + ms) ∧ (∀ z ∈ L, free z.base) ∧ T'.heap = t.heap ∧ T'.vm = t.vm ∧ XC E st₀ t ∧ t.heap[q]? = some ce ∧ ce.vm = .none ∧ s.vm.findClass E = some ce.cls ∧
      Steps p.tables e below (T.setTop g) ((T'.setTop { g with stack := rest }).pushFrame (.throwing q)))
def vx_X {S : Type} (px : S → Prop) (B : String → S → State → Prop) (A : Nat → Prop) : String → State → State → Prop := fun E st t => ∃ u : S, px u ∧ B E u t ∧ va_F A st t
section Runs
variable {p : Program} {l : Launch} {e : Env} {R : Room} {s : State} {m : MethodId} {args : Array Value} {below : List Frame} {meth : Method} {c : Code} {H : Heap} {locs : List Loc} {cells slots : Nat}
variable {y : MethodName} {bytes cc : ByteArray} {maxL nL mc ms n index : Nat} {ret : Option FieldType} {ws : List Cond} {rm : Room} {Pc : Array Value → State → Prop} {Qc : Array Value → State → Outcome → State → Prop} {XC : String → State → State → Prop} {free : Addr → Prop} {Ts : List Cond} {own C : String} {b : Addr} {As rest : List Value} {g : JFrame}
theorem vx_callBack (cb : CallB R s args own index y bytes maxL ret ws rm mc ms n) (hM : vx_Met l y ws rm Pc Qc XC mc ms free) (hbl : FrameBlind Pc) : vx_Back l R p e below s args y 3 8 (PreOf R mc ms Pc) (PostOf Qc mc ms free) (vx_Post XC mc ms free) := by
  obtain ⟨hrc, hrs, hfr, hlo, hws, hcw, -, hini, -⟩ := cb
  exact vx_back (bytes := bytes) (maxL := maxL) (ret := ret) hM hbl hrc hrs hfr hlo hws hcw (fun a' U hW => word_at hW (Or.inl (by first | rfl | simp [Cond.onTables, Cond.keeps, Cond.steady])) hini)
theorem vx_runV (S : CallFix p m c cc nL s args Ts own) (hM : vx_Met l y ws rm Pc Qc XC mc ms free) (cw : CallW R s args own C index y bytes maxL ret ws rm mc ms n) (hp : PreV s H C b Pc As)
    (hg : g.method = m) (hn : As.length = n) (hsize : g.locals.size = nL) (hstack : g.stack = As.reverse ++ .ref b :: rest) (hW : 2 * g.monitorRoom + (rest.map fun v => v.category).sum ≤ 8) (hdg : decode cc g.pc = .ok (.invokevirtual index, 3)) (hf : cells + mc ≤ R.cells ∧ slots + ms ≤ R.slots) :
    vx_Run p l e R s m args below meth c H locs cells slots mc ms g rest (Qc (Value.ref b :: As).toArray) XC free := by
  have hK : vx_Back l R p e below s args y 3 8 (PreOf R mc ms Pc) (PostOf Qc mc ms free) (vx_Post XC mc ms free) := vx_callBack cw.1 hM hp.1
  obtain ⟨⟨-, -, -, -, -, -, hcode, -, hy, hlen, hl⟩, hin, hse⟩ := cw
  obtain ⟨hx, hb, hml, ho, -⟩ := S
  obtain ⟨-, ⟨cellB, hcB, hoB, hclB⟩, hPc⟩ := hp
  intro T hT X
  rcases vx_callV X hx (C := C) (bytes := bytes) (maxL := maxL) (ret := ret) ho hl hin hse hcode hy hK (by rw [hT]; exact hcB) hoB hclB hg (hsize.trans hml.symm) (argsL := As) (rest := rest) (fun sig h => hn.trans (hlen sig h)) hstack hW (by rw [hb]; exact hdg)
    (fun vm₁ hW₁ => ⟨hf.1, hf.2, hPc (T.setVm vm₁) hT hW₁⟩) with ⟨v, vm₁, ⟨U', l2, c2, s2⟩, hW₁, X', ⟨g', mk, t, L, e1, e2, hq, h1, hL, h2, h3⟩, st⟩ | ⟨q, vm₁, ⟨U', l2, c2, s2⟩, hW₁, X', ⟨g', mk, t, L, E, ce, e1, e2, hq, hce, hcv, hcl, h1, hL, h2, h3⟩, st⟩
  · dsimp only [Pt.U, Pt.locs, Pt.cells, Pt.slots] at X' e1 e2 h1 h2 h3 st
    subst h1; subst h2; subst h3
    exact Or.inl ⟨v, (T.setVm vm₁).calling g' mk (Value.ref b :: As).toArray, t, U', L, hT, X', hL, e1, e2, hq, st⟩
  · dsimp only [Pt.U, Pt.locs, Pt.cells, Pt.slots] at X' e1 e2 h1 h2 h3 st hcl
    subst h1; subst h2; subst h3
    exact Or.inr ⟨q, (T.setVm vm₁).calling g' mk (Value.ref b :: As).toArray, t, U', L, E, ce, hT, X', hL, e1, e2, hq, hce, hcv, vx_cls hW₁ hcl, st⟩
theorem vx_runS (S : CallFix p m c cc nL s args Ts own) (hM : vx_Met l y ws rm Pc Qc XC mc ms free) (cw : CallB R s args own index y bytes maxL ret ws rm mc ms n ∧ (Cond.static y).before args s = true) (hp : PreS s H Pc As)
    (hg : g.method = m) (hn : As.length = n) (hsize : g.locals.size = nL) (hstack : g.stack = As.reverse ++ rest) (hW : 2 * g.monitorRoom + (rest.map fun v => v.category).sum ≤ 8) (hdg : decode cc g.pc = .ok (.invokestatic index, 3)) (hf : cells + mc ≤ R.cells ∧ slots + ms ≤ R.slots) :
    vx_Run p l e R s m args below meth c H locs cells slots mc ms g rest (Qc As.toArray) XC free := by
  have hK : vx_Back l R p e below s args y 3 8 (PreOf R mc ms Pc) (PostOf Qc mc ms free) (vx_Post XC mc ms free) := vx_callBack cw.1 hM hp.1
  obtain ⟨⟨-, -, -, -, -, -, hcode, hini, hy, hlen, hl⟩, hstt⟩ := cw
  obtain ⟨hx, hb, hml, ho, -⟩ := S
  intro T hT X
  rcases vx_callS X hx (bytes := bytes) (maxL := maxL) (ret := ret) ho hl hstt hini hcode hy hK hg (hsize.trans hml.symm) (argsL := As) (rest := rest) (fun sig h => hn.trans (hlen sig h)) hstack hW (by rw [hb]; exact hdg)
    (fun vm₁ hW₁ => ⟨hf.1, hf.2, hp.2 (T.setVm vm₁) hT hW₁⟩) with ⟨v, vm₁, ⟨U', l2, c2, s2⟩, hW₁, X', ⟨g', mk, t, L, e1, e2, hq, h1, hL, h2, h3⟩, st⟩ | ⟨q, vm₁, ⟨U', l2, c2, s2⟩, hW₁, X', ⟨g', mk, t, L, E, ce, e1, e2, hq, hce, hcv, hcl, h1, hL, h2, h3⟩, st⟩
  · dsimp only [Pt.U, Pt.locs, Pt.cells, Pt.slots] at X' e1 e2 h1 h2 h3 st
    subst h1; subst h2; subst h3
    exact Or.inl ⟨v, (T.setVm vm₁).calling g' mk As.toArray, t, U', L, hT, X', hL, e1, e2, hq, st⟩
  · dsimp only [Pt.U, Pt.locs, Pt.cells, Pt.slots] at X' e1 e2 h1 h2 h3 st hcl
    subst h1; subst h2; subst h3
    exact Or.inr ⟨q, (T.setVm vm₁).calling g' mk As.toArray, t, U', L, E, ce, hT, X', hL, e1, e2, hq, hce, hcv, vx_cls hW₁ hcl, st⟩
end Runs
section Rows
variable {p : Program} {l : Launch} {e : Env} {R : Room} {s : State} {m : MethodId} {args : Array Value} {below : List Frame} {meth : Method} {c : Code} {H : Heap} {locs : List Loc} {cells slots : Nat} {Q : State → Prop}
variable {mc ms : Nat} {free : Addr → Prop} {A0 A1 : Nat → Prop} {H0 : Heap} {a : Array Value} {pc : Nat} {ls : Array Slot} {st0 rest : List Value}
theorem vx_keep {st₀ t T' : State} {L : List Loc} (h0 : st₀.heap = H) (e1 : T'.heap = t.heap) (hS : va_S A0 H0 H locs) (hA : ∀ q, q < H.size → A1 q → A0 q) (hf : ∀ q, free q → A0 q) (hL : ∀ q ∈ L, free q.base) (hF : va_F A1 st₀ t) :
    H.size ≤ T'.heap.size ∧ (∀ q : Nat, q < H.size → ¬ A1 q → T'.heap[q]? = H[q]?) ∧ va_S A0 H0 T'.heap (locs ++ L) := by
  obtain ⟨hz, hk⟩ := hF
  rw [h0] at hz hk
  exact ⟨by rw [e1]; exact hz, fun q h1 h2 => by rw [e1]; exact hk q h1 h2,
    ⟨Nat.le_trans hS.1 (by rw [e1]; exact hz), fun q h1 h2 => by rw [e1, hk q (Nat.lt_of_lt_of_le h1 hS.1) (fun z => h2 (hA q (Nat.lt_of_lt_of_le h1 hS.1) z))]; exact hS.2.1 q h1 h2, fun q hq => by
      rcases List.mem_append.mp hq with h | h
      · exact hS.2.2 q h
      · exact hf _ (hL q h)⟩⟩
theorem vx_calli {S SX : Type} {post : Int32 → S → Prop} {px : SX → Prop} {B : S → State → Prop} {BX : String → SX → State → Prop} {AX : Nat → Prop} (hr : vx_Run p l e R s m args below meth c H locs cells slots mc ms (F0 m pc ls st0) rest (va_Qi post B A1 a) (vx_X px BX AX) free) (hS : va_S A0 H0 H locs) (hA : ∀ q, q < H.size → A1 q → A0 q) (hf : ∀ q, free q → A0 q) (hAX : ∀ q, q < H.size → AX q → A0 q)
    (kx : ∀ (E : String) (ce : Cell) (q9 : Addr) (u : SX) (t : State) (H1 : Heap) (locs1 : List Loc), t.heap = H1 → s.vm.Alike t.vm → px u → BX E u t → H.size ≤ H1.size → (∀ q : Nat, q < H.size → ¬ AX q → H1[q]? = H[q]?) → va_S A0 H0 H1 locs1 → H1[q9]? = some ce → ce.vm = .none → s.vm.findClass E = some ce.cls → vx_W p l e R s m args below meth c H1 locs1 (cells + mc) (slots + ms) Q (F0 m pc ls rest) q9)
    (kk : ∀ (r : Int32) (u : S) (t : State) (H1 : Heap) (locs1 : List Loc), t.heap = H1 → s.vm.Alike t.vm → post r u → B u t → H.size ≤ H1.size → (∀ q : Nat, q < H.size → ¬ A1 q → H1[q]? = H[q]?) → va_S A0 H0 H1 locs1 → W p l e R s m args below meth c H1 locs1 (cells + mc) (slots + ms) Q (F0 m (pc + 3) ls (.int r :: rest))) : W p l e R s m args below meth c H locs cells slots Q (F0 m pc ls st0) := by
  intro T hT X
  rcases hr T hT X with ⟨v, st₀, t, T', L, h0, X', hL, e1, e2, ⟨⟨r, u, hv, hp, hb⟩, hF⟩, st⟩ | ⟨q, st₀, t, T', L, E, ce, h0, X', hL, e1, e2, ⟨u, hp, hb, hF⟩, hce, hcv, hcl, st⟩
  · cases hv
    obtain ⟨k1, k2, k3⟩ := vx_keep h0 e1 hS hA hf hL hF
    obtain ⟨t2, a1, b1⟩ := kk r u t T'.heap (locs ++ L) e1.symm (by rw [← e2]; exact X'.warmed.alike) hp hb k1 k2 k3 T' rfl X'
    exact ⟨t2, st t2 a1, b1⟩
  · obtain ⟨k1, k2, k3⟩ := vx_keep h0 e1 hS hAX hf hL hF
    obtain ⟨t2, a1, b1⟩ := kx E ce q u t T'.heap (locs ++ L) e1.symm (by rw [← e2]; exact X'.warmed.alike) hp hb k1 k2 k3 (by rw [e1]; exact hce) hcv hcl T' rfl X'
    exact ⟨t2, st.trans a1, b1⟩
theorem vx_calll {S SX : Type} {post : Int64 → S → Prop} {px : SX → Prop} {B : S → State → Prop} {BX : String → SX → State → Prop} {AX : Nat → Prop} (hr : vx_Run p l e R s m args below meth c H locs cells slots mc ms (F0 m pc ls st0) rest (va_Ql post B A1 a) (vx_X px BX AX) free) (hS : va_S A0 H0 H locs) (hA : ∀ q, q < H.size → A1 q → A0 q) (hf : ∀ q, free q → A0 q) (hAX : ∀ q, q < H.size → AX q → A0 q)
    (kx : ∀ (E : String) (ce : Cell) (q9 : Addr) (u : SX) (t : State) (H1 : Heap) (locs1 : List Loc), t.heap = H1 → s.vm.Alike t.vm → px u → BX E u t → H.size ≤ H1.size → (∀ q : Nat, q < H.size → ¬ AX q → H1[q]? = H[q]?) → va_S A0 H0 H1 locs1 → H1[q9]? = some ce → ce.vm = .none → s.vm.findClass E = some ce.cls → vx_W p l e R s m args below meth c H1 locs1 (cells + mc) (slots + ms) Q (F0 m pc ls rest) q9)
    (kk : ∀ (r : Int64) (u : S) (t : State) (H1 : Heap) (locs1 : List Loc), t.heap = H1 → s.vm.Alike t.vm → post r u → B u t → H.size ≤ H1.size → (∀ q : Nat, q < H.size → ¬ A1 q → H1[q]? = H[q]?) → va_S A0 H0 H1 locs1 → W p l e R s m args below meth c H1 locs1 (cells + mc) (slots + ms) Q (F0 m (pc + 3) ls (.long r :: rest))) : W p l e R s m args below meth c H locs cells slots Q (F0 m pc ls st0) := by
  intro T hT X
  rcases hr T hT X with ⟨v, st₀, t, T', L, h0, X', hL, e1, e2, ⟨⟨r, u, hv, hp, hb⟩, hF⟩, st⟩ | ⟨q, st₀, t, T', L, E, ce, h0, X', hL, e1, e2, ⟨u, hp, hb, hF⟩, hce, hcv, hcl, st⟩
  · cases hv
    obtain ⟨k1, k2, k3⟩ := vx_keep h0 e1 hS hA hf hL hF
    obtain ⟨t2, a1, b1⟩ := kk r u t T'.heap (locs ++ L) e1.symm (by rw [← e2]; exact X'.warmed.alike) hp hb k1 k2 k3 T' rfl X'
    exact ⟨t2, st t2 a1, b1⟩
  · obtain ⟨k1, k2, k3⟩ := vx_keep h0 e1 hS hAX hf hL hF
    obtain ⟨t2, a1, b1⟩ := kx E ce q u t T'.heap (locs ++ L) e1.symm (by rw [← e2]; exact X'.warmed.alike) hp hb k1 k2 k3 (by rw [e1]; exact hce) hcv hcl T' rfl X'
    exact ⟨t2, st.trans a1, b1⟩
theorem vx_callf {S SX : Type} {post : UInt32 → S → Prop} {px : SX → Prop} {B : S → State → Prop} {BX : String → SX → State → Prop} {AX : Nat → Prop} (hr : vx_Run p l e R s m args below meth c H locs cells slots mc ms (F0 m pc ls st0) rest (va_Qf post B A1 a) (vx_X px BX AX) free) (hS : va_S A0 H0 H locs) (hA : ∀ q, q < H.size → A1 q → A0 q) (hf : ∀ q, free q → A0 q) (hAX : ∀ q, q < H.size → AX q → A0 q)
    (kx : ∀ (E : String) (ce : Cell) (q9 : Addr) (u : SX) (t : State) (H1 : Heap) (locs1 : List Loc), t.heap = H1 → s.vm.Alike t.vm → px u → BX E u t → H.size ≤ H1.size → (∀ q : Nat, q < H.size → ¬ AX q → H1[q]? = H[q]?) → va_S A0 H0 H1 locs1 → H1[q9]? = some ce → ce.vm = .none → s.vm.findClass E = some ce.cls → vx_W p l e R s m args below meth c H1 locs1 (cells + mc) (slots + ms) Q (F0 m pc ls rest) q9)
    (kk : ∀ (r : UInt32) (u : S) (t : State) (H1 : Heap) (locs1 : List Loc), t.heap = H1 → s.vm.Alike t.vm → post r u → B u t → H.size ≤ H1.size → (∀ q : Nat, q < H.size → ¬ A1 q → H1[q]? = H[q]?) → va_S A0 H0 H1 locs1 → W p l e R s m args below meth c H1 locs1 (cells + mc) (slots + ms) Q (F0 m (pc + 3) ls (.float r :: rest))) : W p l e R s m args below meth c H locs cells slots Q (F0 m pc ls st0) := by
  intro T hT X
  rcases hr T hT X with ⟨v, st₀, t, T', L, h0, X', hL, e1, e2, ⟨⟨r, u, hv, hp, hb⟩, hF⟩, st⟩ | ⟨q, st₀, t, T', L, E, ce, h0, X', hL, e1, e2, ⟨u, hp, hb, hF⟩, hce, hcv, hcl, st⟩
  · cases hv
    obtain ⟨k1, k2, k3⟩ := vx_keep h0 e1 hS hA hf hL hF
    obtain ⟨t2, a1, b1⟩ := kk r u t T'.heap (locs ++ L) e1.symm (by rw [← e2]; exact X'.warmed.alike) hp hb k1 k2 k3 T' rfl X'
    exact ⟨t2, st t2 a1, b1⟩
  · obtain ⟨k1, k2, k3⟩ := vx_keep h0 e1 hS hAX hf hL hF
    obtain ⟨t2, a1, b1⟩ := kx E ce q u t T'.heap (locs ++ L) e1.symm (by rw [← e2]; exact X'.warmed.alike) hp hb k1 k2 k3 (by rw [e1]; exact hce) hcv hcl T' rfl X'
    exact ⟨t2, st.trans a1, b1⟩
theorem vx_calld {S SX : Type} {post : UInt64 → S → Prop} {px : SX → Prop} {B : S → State → Prop} {BX : String → SX → State → Prop} {AX : Nat → Prop} (hr : vx_Run p l e R s m args below meth c H locs cells slots mc ms (F0 m pc ls st0) rest (va_Qd post B A1 a) (vx_X px BX AX) free) (hS : va_S A0 H0 H locs) (hA : ∀ q, q < H.size → A1 q → A0 q) (hf : ∀ q, free q → A0 q) (hAX : ∀ q, q < H.size → AX q → A0 q)
    (kx : ∀ (E : String) (ce : Cell) (q9 : Addr) (u : SX) (t : State) (H1 : Heap) (locs1 : List Loc), t.heap = H1 → s.vm.Alike t.vm → px u → BX E u t → H.size ≤ H1.size → (∀ q : Nat, q < H.size → ¬ AX q → H1[q]? = H[q]?) → va_S A0 H0 H1 locs1 → H1[q9]? = some ce → ce.vm = .none → s.vm.findClass E = some ce.cls → vx_W p l e R s m args below meth c H1 locs1 (cells + mc) (slots + ms) Q (F0 m pc ls rest) q9)
    (kk : ∀ (r : UInt64) (u : S) (t : State) (H1 : Heap) (locs1 : List Loc), t.heap = H1 → s.vm.Alike t.vm → post r u → B u t → H.size ≤ H1.size → (∀ q : Nat, q < H.size → ¬ A1 q → H1[q]? = H[q]?) → va_S A0 H0 H1 locs1 → W p l e R s m args below meth c H1 locs1 (cells + mc) (slots + ms) Q (F0 m (pc + 3) ls (.double r :: rest))) : W p l e R s m args below meth c H locs cells slots Q (F0 m pc ls st0) := by
  intro T hT X
  rcases hr T hT X with ⟨v, st₀, t, T', L, h0, X', hL, e1, e2, ⟨⟨r, u, hv, hp, hb⟩, hF⟩, st⟩ | ⟨q, st₀, t, T', L, E, ce, h0, X', hL, e1, e2, ⟨u, hp, hb, hF⟩, hce, hcv, hcl, st⟩
  · cases hv
    obtain ⟨k1, k2, k3⟩ := vx_keep h0 e1 hS hA hf hL hF
    obtain ⟨t2, a1, b1⟩ := kk r u t T'.heap (locs ++ L) e1.symm (by rw [← e2]; exact X'.warmed.alike) hp hb k1 k2 k3 T' rfl X'
    exact ⟨t2, st t2 a1, b1⟩
  · obtain ⟨k1, k2, k3⟩ := vx_keep h0 e1 hS hAX hf hL hF
    obtain ⟨t2, a1, b1⟩ := kx E ce q u t T'.heap (locs ++ L) e1.symm (by rw [← e2]; exact X'.warmed.alike) hp hb k1 k2 k3 (by rw [e1]; exact hce) hcv hcl T' rfl X'
    exact ⟨t2, st.trans a1, b1⟩
theorem vx_callv {S SX : Type} {post : S → Prop} {px : SX → Prop} {B : S → State → Prop} {BX : String → SX → State → Prop} {AX : Nat → Prop} (hr : vx_Run p l e R s m args below meth c H locs cells slots mc ms (F0 m pc ls st0) rest (va_Qv post B A1 a) (vx_X px BX AX) free) (hS : va_S A0 H0 H locs) (hA : ∀ q, q < H.size → A1 q → A0 q) (hf : ∀ q, free q → A0 q) (hAX : ∀ q, q < H.size → AX q → A0 q)
    (kx : ∀ (E : String) (ce : Cell) (q9 : Addr) (u : SX) (t : State) (H1 : Heap) (locs1 : List Loc), t.heap = H1 → s.vm.Alike t.vm → px u → BX E u t → H.size ≤ H1.size → (∀ q : Nat, q < H.size → ¬ AX q → H1[q]? = H[q]?) → va_S A0 H0 H1 locs1 → H1[q9]? = some ce → ce.vm = .none → s.vm.findClass E = some ce.cls → vx_W p l e R s m args below meth c H1 locs1 (cells + mc) (slots + ms) Q (F0 m pc ls rest) q9)
    (kk : ∀ (u : S) (t : State) (H1 : Heap) (locs1 : List Loc), t.heap = H1 → s.vm.Alike t.vm → post u → B u t → H.size ≤ H1.size → (∀ q : Nat, q < H.size → ¬ A1 q → H1[q]? = H[q]?) → va_S A0 H0 H1 locs1 → W p l e R s m args below meth c H1 locs1 (cells + mc) (slots + ms) Q (F0 m (pc + 3) ls (rest))) : W p l e R s m args below meth c H locs cells slots Q (F0 m pc ls st0) := by
  intro T hT X
  rcases hr T hT X with ⟨v, st₀, t, T', L, h0, X', hL, e1, e2, ⟨⟨u, hv, hp, hb⟩, hF⟩, st⟩ | ⟨q, st₀, t, T', L, E, ce, h0, X', hL, e1, e2, ⟨u, hp, hb, hF⟩, hce, hcv, hcl, st⟩
  · cases hv
    obtain ⟨k1, k2, k3⟩ := vx_keep h0 e1 hS hA hf hL hF
    obtain ⟨t2, a1, b1⟩ := kk u t T'.heap (locs ++ L) e1.symm (by rw [← e2]; exact X'.warmed.alike) hp hb k1 k2 k3 T' rfl X'
    exact ⟨t2, st t2 a1, b1⟩
  · obtain ⟨k1, k2, k3⟩ := vx_keep h0 e1 hS hAX hf hL hF
    obtain ⟨t2, a1, b1⟩ := kx E ce q u t T'.heap (locs ++ L) e1.symm (by rw [← e2]; exact X'.warmed.alike) hp hb k1 k2 k3 (by rw [e1]; exact hce) hcv hcl T' rfl X'
    exact ⟨t2, st.trans a1, b1⟩
/-- caught by the row x of this method's table; the rows ahead don't take it -/
theorem vx_catch {own name : String} {E : String} {ce : Cell} {q : Addr} (hown : s.vm.findClass own = some m.cls) (pre : List ExceptionTableEntry) (x : ExceptionTableEntry) (suf : List ExceptionTableEntry) (hsplit : c.exceptionTable.toList = pre ++ x :: suf)
    (hpass : ∀ z ∈ pre, covers z pc = false ∨ (z.catchType ≠ 0 ∧ ∃ nm : String, (Cond.classLink own z.catchType nm).before args s = true ∧ va_Nc E nm s)) (hx : covers x pc = true) (h0 : x.catchType ≠ 0)
    (hlink : (Cond.classLink own x.catchType name).before args s = true) (hcast : (Cond.castable E name).before args s = true) (hcell : H[q]? = some ce) (hv : ce.vm = .none) (hcl : s.vm.findClass E = some ce.cls)
    (kk : W p l e R s m args below meth c H locs cells slots Q (F0 m x.handlerPc ls [.ref q])) : vx_W p l e R s m args below meth c H locs cells slots Q (F0 m pc ls rest) q := by
  intro T hT X
  have hpl : e.platform.magicAccessors = ({} : Platform).magicAccessors := by rw [X.admits.platform]
  obtain ⟨c3, c4, hc3, hc4, hasg⟩ := Cond.castable_spec hcast
  cases Option.some.inj (hc3.symm.trans hcl)
  obtain ⟨c5, hc5, hcl5⟩ := Cond.classLink_spec hown hlink e.platform hpl
  cases Option.some.inj (hc4.symm.trans hc5)
  obtain ⟨vm', X', st⟩ := X.thenCaughtThrough q (g := F0 m pc ls rest) rfl (Steps.refl _) (by rw [hT]; exact hcell) (by rw [hv]; rfl) (by obtain ⟨k9, h9, -⟩ := Vm.findClass_spec hcl; exact ⟨k9, h9⟩) pre x suf hsplit
    (fun z hz => by
      rcases hpass z hz with h | ⟨hz0, nm, hl1, hn1⟩
      · exact Or.inl h
      · obtain ⟨c6, hc6, hcl6⟩ := Cond.classLink_spec hown hl1 e.platform hpl
        obtain ⟨a8, b8, h1, h2, h3⟩ := hn1
        cases Option.some.inj (h1.symm.trans hcl)
        cases Option.some.inj (h2.symm.trans hc6)
        exact Or.inr ⟨hz0, _, hcl6, h3⟩) hx (Or.inr ⟨h0, c4, hcl5, hasg⟩)
  obtain ⟨t, a1, b1⟩ := kk (T.setVm vm') hT X'
  exact ⟨t, st.trans a1, b1⟩
end Rows
section Ends
variable {p : Program} {l : Launch} {e : Env} {R : Room} {s : State} {m : MethodId} {args : Array Value} {below : List Frame} {meth : Method} {c : Code} {H : Heap} {locs : List Loc} {cells slots : Nat} {Q : State → Prop}
variable {mc ms : Nat} {free : Addr → Prop} {A0 A1 : Nat → Prop} {H0 : Heap} {a : Array Value} {ls : Array Slot} {st0 rest : List Value}
variable {Qc : Array Value → State → Outcome → State → Prop} {XC : String → State → State → Prop}
/-- what a body that may throw owes at its end -/
def vx_MQ (below : List Frame) (Qc : Array Value → State → Outcome → State → Prop) (XC : String → State → State → Prop) (a : Array Value) (s : State) (mc ms : Nat) (free : Addr → Prop) : State → Prop := fun t =>
  ∃ o, t.status = .running ∧ Ended t below o ∧ vx_Q Qc XC mc ms free a s o t
theorem vx_ret {g : JFrame} {mc ms : Nat} (k : W p l e R s m args below meth c H locs cells slots (MQ below Qc args s mc ms free) g) : W p l e R s m args below meth c H locs cells slots (vx_MQ below Qc XC args s mc ms free) g := by
  intro T hT X
  obtain ⟨t, a1, o, b1, b2, b3, b4⟩ := k T hT X
  exact ⟨t, a1, o, b1, b2, Or.inl ⟨b3, b4⟩⟩
/-- not caught here: it goes on to the caller -/
theorem vx_widen {g : JFrame} {q : Addr} {k n : Nat} (h1 : cells ≤ k) (h2 : slots ≤ n) (kk : vx_W p l e R s m args below meth c H locs k n Q g q) : vx_W p l e R s m args below meth c H locs cells slots Q g q := fun T hT X => kk T hT (stand_widen X h1 h2)
theorem vx_out {pc : Nat} {E : String} {ce : Cell} {q : Addr} {mc ms : Nat} (hout : ∀ x ∈ c.exceptionTable.toList, covers x pc = false) (hlocks : meth.locks = false) (hcell : H[q]? = some ce) (hv : ce.vm = .none) (hcl : s.vm.findClass E = some ce.cls)
    (hx : ∀ t : State, t.heap = H → s.vm.Alike t.vm → XC E s t) (hf : ∀ z ∈ locs, free z.base) (hc : cells ≤ mc) (hs : slots ≤ ms) :
    vx_W p l e R s m args below meth c H locs cells slots (vx_MQ below Qc XC args s mc ms free) (F0 m pc ls rest) q := by
  intro T hT X
  obtain ⟨st1, hrun, hend, hW, hsm⟩ := X.leaveThrown q (g := F0 m pc ls rest) rfl rfl rfl hout hlocks
  have hcell9 : (T.setFrames (.throwing q :: below)).heap[q]? = some ce := by
    show T.heap[q]? = some ce
    rw [hT]; exact hcell
  exact ⟨_, st1, .threw q, hrun, hend, Or.inr ⟨q, rfl, E, ce, locs, hx _ hT hW.alike, hcell9, hv, hcl, hW, hsm.mono hc hs, hf⟩⟩
theorem vx_frame {U : State} {k n : Nat} (h : s.sameButNew ({ U with vm := s.vm } : State) locs k n) : s.heap.size ≤ U.heap.size ∧ ∀ q : Nat, q < s.heap.size → (∀ z ∈ locs, z.base ≠ q) → U.heap[q]? = s.heap[q]? := by
  obtain ⟨-, h2, -, -, -, h6⟩ := h
  refine ⟨h2, fun q hq hz => ?_⟩
  obtain ⟨c9, e1, e2, e3, e4⟩ := h6 q _ (Array.getElem?_eq_getElem hq)
  have hs : c9.slots = (s.heap[q]).slots := Array.ext_getElem? fun i => e4 i fun hm => hz _ hm rfl
  have h9 : c9 = s.heap[q] := by
    rw [hs] at e2
    exact e2
  have e5 : U.heap[q]? = some c9 := e1
  rw [e5, h9, Array.getElem?_eq_getElem hq]
/-- the words of a throw but the four that speak of the heap -/
def vx_no (w : Cond) : Bool := decide (w ≠ .isRef (.static Bundle.tN "UNASSIGNED_STACK" Bundle.steD)) && decide (w ≠ .isRef (.static Bundle.tN "SUPPRESSED_SENTINEL" Bundle.listD)) && decide (w ≠ .laysStatic Bundle.tN "UNASSIGNED_STACK" Bundle.steD) && decide (w ≠ .laysStatic Bundle.tN "SUPPRESSED_SENTINEL" Bundle.listD)
def vx_at0 (own : String) (ic : Nat) (X : String) (names : List String) : List Cond := (Bundle.ownAtoms0 own ic X names).filter vx_no
def vx_atS (own : String) (ic : Nat) (X : String) (names : List String) : List Cond := (Bundle.ownAtoms own ic X names).filter vx_no
/-- a word that the tables alone decide, or a good one -/
def vx_ot (w : Cond) : Bool := w.onTables || goodWord w
theorem vx_ot_at {args a' : Array Value} {s U : State} {w : Cond} (hW : s.WarmedH U.vm) (hvm : s.vm = U.vm) (hg : vx_ot w = true) (h : w.before args s = true) : w.before a' U = true := by
  simp only [vx_ot, Bool.or_eq_true] at hg
  rcases hg with hg | hg
  · exact va_tabs hg hvm h
  · exact word_at hW (good_of_word hg) h
/-- a list's words: the good ones out of the method's own list, the others by premises of their own -/
theorem vx_hat {args : Array Value} {s : State} {L B : List Cond} (h1 : ∀ w ∈ L.filter goodWord, w.before args s = true) (h2 : ∀ w ∈ L.filter (fun w => !goodWord w), w ∈ B) (h3 : ∀ w ∈ B, w.before args s = true) : ∀ w ∈ L, w.before args s = true := by
  intro w hw
  by_cases g : goodWord w = true
  · exact h1 w (List.mem_filter.mpr ⟨hw, g⟩)
  · refine h3 w (h2 w (List.mem_filter.mpr ⟨hw, ?_⟩))
    show (!goodWord w) = true
    cases hgw : goodWord w
    · rfl
    · exact absurd hgw g
theorem vx_c {args : Array Value} {s : State} {w : Cond} {B : List Cond} (h : w.before args s = true) (t : ∀ w ∈ B, w.before args s = true) : ∀ w' ∈ w :: B, w'.before args s = true := fun w' h' => (List.mem_cons.mp h').elim (fun e => by rw [e]; exact h) (t w')
theorem vx_n {args : Array Value} {s : State} : ∀ w ∈ ([] : List Cond), w.before args s = true := fun _ h => nomatch h
theorem vx_own {args : Array Value} {s : State} {L : List Cond} (h1 : ∀ w ∈ L.filter vx_no, w.before args s = true)
    (hU : (Cond.isRef (.static Bundle.tN "UNASSIGNED_STACK" Bundle.steD)).before args s = true) (hN : (Cond.isRef (.static Bundle.tN "SUPPRESSED_SENTINEL" Bundle.listD)).before args s = true)
    (lU : (Cond.laysStatic Bundle.tN "UNASSIGNED_STACK" Bundle.steD).before args s = true) (lN : (Cond.laysStatic Bundle.tN "SUPPRESSED_SENTINEL" Bundle.listD).before args s = true) : ∀ w ∈ L, w.before args s = true := by
  intro w hw
  by_cases e1 : w = .isRef (.static Bundle.tN "UNASSIGNED_STACK" Bundle.steD)
  · rw [e1]; exact hU
  · by_cases e2 : w = .isRef (.static Bundle.tN "SUPPRESSED_SENTINEL" Bundle.listD)
    · rw [e2]; exact hN
    · by_cases e3 : w = .laysStatic Bundle.tN "UNASSIGNED_STACK" Bundle.steD
      · rw [e3]; exact lU
      · by_cases e4 : w = .laysStatic Bundle.tN "SUPPRESSED_SENTINEL" Bundle.listD
        · rw [e4]; exact lN
        · exact h1 w (List.mem_filter.mpr ⟨hw, by unfold vx_no; rw [decide_eq_true e1, decide_eq_true e2, decide_eq_true e3, decide_eq_true e4]; rfl⟩)
/-- where a static field lies, its class's statics cell in H -/
def vx_L (C n d : String) (A : Nat → Prop) (U : State) (H : Heap) : Prop := ∃ (c : ClassId) (k : Class) (i : Nat) (f : Field) (a : Nat) (cell : Cell), U.vm.findClass C = some c ∧ U.fieldFound? C n d = some (c, k, i, f) ∧ f.isStatic = true ∧ k.statics = some a ∧ H[a]? = some cell ∧ cell.vm.isStatics = true ∧ cell.cls = c ∧ f.slot < cell.slots.size ∧ k.staticTypes[f.slot]? = some f.type ∧ ¬ A a
theorem vx_L.moved {C n d : String} {A : Nat → Prop} {u U : State} {H : Heap} (hvm : u.vm.Alike U.vm) (h : vx_L C n d A u H) : vx_L C n d A U H := by
  obtain ⟨c, k, i, f, a, cell, h1, h2, h3, h4, h5, h6, h7, h8, h9, h10⟩ := h
  obtain ⟨k', hi', he⟩ := State.fieldFound?_setVm hvm h2
  exact ⟨c, k', i, f, a, cell, by rw [hvm.findClass]; exact h1, hi', h3, by rw [he]; exact h4, h5, h6, h7, h8, by rw [he]; exact h9, h10⟩
theorem vx_L.kept {C n d : String} {A : Nat → Prop} {U : State} {H H1 : Heap} (h : vx_L C n d A U H) (hq : ∀ a : Nat, a < H.size → ¬ A a → H1[a]? = H[a]?) : vx_L C n d A U H1 := by
  obtain ⟨c, k, i, f, a, cell, h1, h2, h3, h4, h5, h6, h7, h8, h9, h10⟩ := h
  exact ⟨c, k, i, f, a, cell, h1, h2, h3, h4, by rw [hq a (Array.getElem?_eq_some_iff.mp h5).1 h10]; exact h5, h6, h7, h8, h9, h10⟩
theorem vx_L.narrow {C n d : String} {A B : Nat → Prop} {U : State} {H : Heap} (h : vx_L C n d A U H) (hAB : ∀ q, B q → A q) : vx_L C n d B U H := by
  obtain ⟨c, k, i, f, a, cell, h1, h2, h3, h4, h5, h6, h7, h8, h9, h10⟩ := h
  exact ⟨c, k, i, f, a, cell, h1, h2, h3, h4, h5, h6, h7, h8, h9, fun z => h10 (hAB _ z)⟩
theorem vx_L.word {C n d : String} {A : Nat → Prop} {s : State} {args : Array Value} (h : vx_L C n d A s s.heap) : (Cond.laysStatic C n d).before args s = true := by
  obtain ⟨c, k, i, f, a, cell, h1, h2, h3, h4, h5, h6, h7, h8, h9, -⟩ := h
  show (Cond.laysStatic C n d).holds args s none s [] = true
  exact Cond.laysStatic_of h1 h2 h3 h4 h5 h6 h7 h8 h9
/-- .. and what it holds: null or some reference -/
def vx_Zq (C n d : String) (A : Nat → Prop) (U : State) (H : Heap) : Prop := va_Zq C n d A U H ∧ vx_L C n d A U H
theorem vx_Zq.moved {C n d : String} {A : Nat → Prop} {u U : State} {H : Heap} (hvm : u.vm.Alike U.vm) (h : vx_Zq C n d A u H) : vx_Zq C n d A U H := ⟨va_Zq.moved hvm h.1, vx_L.moved hvm h.2⟩
theorem vx_Zq.kept {C n d : String} {A : Nat → Prop} {U : State} {H H1 : Heap} (h : vx_Zq C n d A U H) (hq : ∀ a : Nat, a < H.size → ¬ A a → H1[a]? = H[a]?) : vx_Zq C n d A U H1 := ⟨va_Zq.kept h.1 hq, vx_L.kept h.2 hq⟩
theorem vx_Zq.narrow {C n d : String} {A B : Nat → Prop} {U : State} {H : Heap} (h : vx_Zq C n d A U H) (hAB : ∀ q, B q → A q) : vx_Zq C n d B U H := ⟨va_Zq.narrow h.1 hAB, vx_L.narrow h.2 hAB⟩
theorem vx_Zqof {args : Array Value} {s : State} {C n d : String} {A : Nat → Prop} (hl : (Cond.laysStatic C n d).before args s = true) (hini : (Cond.initialized C).before args s = true) (h : (Cond.isRef (.static C n d)).before args s = true) (hA : ∀ a : Nat, a < s.heap.size → ¬ A a) : vx_Zq C n d A s s.heap := by
  refine ⟨va_Zqof hl hini h hA, ?_⟩
  obtain ⟨c, k, i, f, a, cell, h1, h2, h3, h4, h5, h6, h7, h8, h9⟩ := Cond.laysStatic_spec hl
  exact ⟨c, k, i, f, a, cell, h1, h2, h3, h4, h5, h6, h7, h8, h9, hA a (Array.getElem?_eq_some_iff.mp h5).1⟩
theorem vx_isRef {C n d : String} {v : Value} {A : Nat → Prop} {s : State} {args : Array Value} (h : va_Z C n d v A s s.heap) (hv : v.isRef = true) : (Cond.isRef (.static C n d)).before args s = true := by
  obtain ⟨cf, kf, fi, f, a, cell, h1, h2, h3, h4, h5, h6, h7, -⟩ := h
  have he : (Term.static C n d).eval args s none [] s = some v := by
    simp [Term.eval, State.fieldNamed?, h1, h2, h4, h5, h6, h7]
  simp only [Cond.before, Cond.holds, Cond.value, he]
  cases v <;> simp_all [Value.isRef]
theorem vx_isRefq {C n d : String} {A : Nat → Prop} {s : State} {args : Array Value} (h : va_Zq C n d A s s.heap) : (Cond.isRef (.static C n d)).before args s = true := by
  rcases h with h | ⟨t, h⟩
  · exact vx_isRef h rfl
  · exact vx_isRef h rfl
/-- the same frame, seen from here: as if the method were called anew in this heap -/
theorem vx_rebase {T : State} (X : Stand p l e R s m args below meth c T locs cells slots) {R' : Room} (hf : R'.frames ≤ R.frames) (hl : R'.locals ≤ R.locals) (hc : cells + R'.cells ≤ R.cells) (hs : slots + R'.slots ≤ R.slots) :
    Stand p l e R' ((T.setVm s.vm).setFrames (.invoking m args :: below)) m args below meth c T [] 0 0 := by
  have htop : (T.setVm s.vm).topJava?.isSome := X.here.top
  have hF : ((T.setVm s.vm).setFrames (.invoking m args :: below)).frames = .invoking m args :: below := State.frames_setFrames _ (State.cur_lt_of_top htop)
  obtain ⟨g₀, hg0⟩ := Option.isSome_iff_exists.mp htop
  obtain ⟨r, hr⟩ := State.topJava?_eq_some.mp hg0
  have hl9 : e.platform.stackLimits (T.setVm s.vm).me = e.platform.stackLimits s.me := X.limits
  have hb9 : (T.setVm s.vm).me.stackBytes = s.me.stackBytes := X.bytes
  refine ⟨X.admits, X.cas, X.clock, hF, ?_, X.hears, X.method, X.code, X.here, X.tail, X.warmed, ?_, ?_, ?_⟩
  · have h := X.room
    have hU : ((T.setVm s.vm).setFrames (.invoking m args :: below)).localsInUse = s.localsInUse := by
      rw [State.localsInUse_invoking hF (meth := meth) (c := c) X.method X.code, State.localsInUse_invoking X.frames X.method X.code]
    simp only [State.hasRoom, Bool.and_eq_true, decide_eq_true_eq] at h ⊢
    obtain ⟨⟨⟨⟨h1, h2, h3, h4, h5, h6⟩, h7⟩, h8⟩, h9⟩ := h
    rw [X.frames, List.length_cons] at h2 h3
    have q1 := X.heapSize
    have q2 := X.used
    simp only [hF, hU, List.length_cons, State.stackLimits_setFrames, State.stackBytes_setFrames, hl9, hb9]
    refine ⟨⟨⟨⟨by omega, by omega, by omega, by omega, by omega, h6⟩, ?_⟩, ?_⟩, X.book⟩
    · show T.heap.size + R'.cells ≤ e.platform.maxCells
      omega
    · show T.slotsUsed + R'.slots ≤ e.platform.maxSlots
      omega
  · rw [State.stackLimits_setFrames]; rfl
  · rw [State.stackBytes_setFrames]; rfl
  · refine ⟨?_, Nat.le_refl _, Nat.le_refl _, ?_, ?_, fun a c9 h9 => ⟨c9, h9, rfl, rfl, fun _ _ => rfl⟩⟩
    · obtain ⟨t, ht, -⟩ := State.frames_cons hr
      show T.setVm s.vm = { ((T.setVm s.vm).setFrames (.invoking m args :: below)).setFrames (T.setVm s.vm).frames with heap := T.heap, slotsUsed := T.slotsUsed }
      rw [State.setFrames_setFrames, State.setFrames_self ht]
      rfl
    · show T.slotsUsed = T.slotsUsed + ((T.heap.toList.drop T.heap.size).map (·.slots.size)).sum
      rw [List.drop_eq_nil_of_le (Nat.le_of_eq Array.length_toList)]
      rfl
    · show ((T.heap.toList.drop T.heap.size).map (·.slots.size)).sum ≤ 0
      rw [List.drop_eq_nil_of_le (Nat.le_of_eq Array.length_toList)]
      exact Nat.le_refl _
/-- 'throw new E()': new; dup; invokespecial; athrow -/
theorem vx_throw0 {cc : ByteArray} {pc : Nat} (hexec : p.tables.exec = Jvm.exec) (hb : c.code = cc) (hl : l.stackTraces = false) {own cls : String} {names : List String} {ik ic mc ms : Nat} {A : Nat → Prop}
    (hown : s.vm.findClass own = some m.cls) (hcls : Bundle.fit cls = true) (hnames : ∀ n ∈ names, Bundle.fit n = true)
    (hk : (Cond.classLink own ik cls).before args s = true) (hini : (Cond.initialized cls).before args s = true) (hat : ∀ w ∈ vx_at0 own ic cls names, w.before args s = true)
    (hgood : ∀ w ∈ Cond.classLink own ik cls :: Cond.initialized cls :: vx_at0 own ic cls names, vx_ot w = true)
    (hU : vx_Zq Bundle.tN "UNASSIGNED_STACK" Bundle.steD A s s.heap) (hN : vx_Zq Bundle.tN "SUPPRESSED_SENTINEL" Bundle.listD A s s.heap) (hS : va_S A s.heap H locs) (hsize : ls.size = c.maxLocals)
    (d0 : decode cc pc = .ok (.new ik, 3)) (d3 : decode cc (pc + 3) = .ok (.dup, 1)) (d4 : decode cc (pc + 4) = .ok (.invokespecial ic, 3)) (d7 : decode cc (pc + 7) = .ok (.athrow, 1))
    (hout : ∀ x ∈ c.exceptionTable.toList, covers x (pc + 7) = false)
    (hRframes : names.length + 3 < R.frames) (hRlocals : (rest.map fun v => v.category).sum + (13 * (names.length + 1) + 42) ≤ R.locals) (hRcells : cells + 1 ≤ R.cells) (hRslots : slots + 6 ≤ R.slots) (hlocks : meth.locks = false)
    (hx : ∀ t : State, s.vm.Alike t.vm → H.size ≤ t.heap.size → (∀ q : Nat, q < H.size → t.heap[q]? = H[q]?) → XC cls s t)
    (hf : ∀ z ∈ locs, free z.base) (hc : cells + 1 ≤ mc) (hs : slots + 6 ≤ ms) :
    W p l e R s m args below meth c H locs cells slots (vx_MQ below Qc XC args s mc ms free) (F0 m pc ls rest) := by
  intro T hT X
  have htr : e.platform.stackTraces = false := (show e.platform.stackTraces = l.stackTraces by rw [X.admits.platform]).trans hl
  have Y := vx_rebase X (R' := { frames := R.frames, locals := R.locals, cells := 1, slots := 6 }) (Nat.le_refl _) (Nat.le_refl _) hRcells hRslots
  obtain ⟨s', hA⟩ : ∃ z, z = (T.setVm s.vm).setFrames (.invoking m args :: below) := ⟨_, rfl⟩
  rw [← hA] at Y
  have hvm : s'.vm = s.vm := by rw [hA]; rfl
  have hhp : s'.heap = H := by rw [hA]; exact hT
  have hW0 : s.WarmedH s'.vm := by rw [hvm]; exact State.WarmedH.refl s
  have hat' : ∀ w ∈ vx_at0 own ic cls names, w.before args s' = true := fun w hw => vx_ot_at hW0 hvm.symm (hgood w (List.mem_cons_of_mem _ (List.mem_cons_of_mem _ hw))) (hat w hw)
  have hk' : (Cond.classLink own ik cls).before args s' = true := vx_ot_at hW0 hvm.symm (hgood _ List.mem_cons_self) hk
  have hini' : (Cond.initialized cls).before args s' = true := vx_ot_at hW0 hvm.symm (hgood _ (List.mem_cons_of_mem _ List.mem_cons_self)) hini
  have hU' : vx_Zq Bundle.tN "UNASSIGNED_STACK" Bundle.steD A s' s'.heap := by rw [hhp]; exact vx_Zq.moved hW0.alike (hU.kept hS.2.1)
  have hN' : vx_Zq Bundle.tN "SUPPRESSED_SENTINEL" Bundle.listD A s' s'.heap := by rw [hhp]; exact vx_Zq.moved hW0.alike (hN.kept hS.2.1)
  have h : ∀ w ∈ Bundle.ownAtoms0 own ic cls names, w.before args s' = true := vx_own hat' (vx_isRefq hU'.1) (vx_isRefq hN'.1) hU'.2.word hN'.2.word
  have hown' : s'.vm.findClass own = some m.cls := by rw [hvm]; exact hown
  have hins : (Cond.instantiable cls 6).before args s' = true := h _ (by simp [Bundle.ownAtoms0])
  obtain ⟨vm₁, cX, kX, hfX, hkX, -, -, X₁, st1⟩ := Y.newCold hexec (own := own) (C := cls) (index := ik) (n := 6) hown' hk' hins hini'
    (g := F0 m pc ls rest) rfl (by rw [hb]; exact d0) (Nat.le_refl _) (Nat.le_refl _)
  generalize hT1 : (T.setVm vm₁).pushCell { cls := cX, slots := kX.instanceTypes.map defaultValue, vm := .none } = T1 at X₁ st1
  have hcat : (Value.ref T.heap.size).category = 1 := rfl
  have hcellA : T1.heap[T.heap.size]? = some (freshCell cX kX) := by rw [← hT1]; exact State.heap_pushCell_size _ _
  have d3' : decode c.code (pc + 3) = .ok (.dup, 1) := by rw [hb]; exact d3
  obtain ⟨U, hsteps, hrun, hend, hW, hsame, ce, hce, hO⟩ := X₁.ctorThrow0 hexec htr (own := own) (cls := cls) (names := names) (ic := ic) hown' hcls hnames h (fun x hx => nomatch hx) hfX hkX hcellA (by rw [hhp, hT]; exact Nat.le_refl _)
    (g := { method := m, pc := pc + 4, locals := ls, stack := .ref T.heap.size :: .ref T.heap.size :: rest, locked := none }) rfl hsize rfl rfl (rest := rest) rfl
    (by rw [hb]; exact d4) (by rw [hb]; exact d7) hout hRframes (by simp only [List.map_cons, List.sum_cons, hcat]; omega) hlocks
  obtain ⟨f1, f2⟩ := vx_frame hsame
  rw [hhp] at f1 f2
  have hWs : s.WarmedH U.vm := State.WarmedH.trans hW0 hW
  have hcl : s.vm.findClass cls = some ce.cls := by
    have h9 := hO.cls
    rw [hvm] at h9
    exact h9
  have hall : s.sameButNew ({ U with vm := s.vm } : State) locs mc ms := by
    subst hA
    obtain ⟨e1, e2⟩ := hsame
    rw [State.setFrames_setFrames] at e1
    have h2 : (T.setVm s.vm).sameButNew ({ U with vm := s.vm } : State) [] (0 + 1) (0 + 6) := ⟨e1, e2⟩
    have h3 := X.same.trans h2
    rw [List.append_nil] at h3
    exact h3.mono hc hs
  refine ⟨U, ?_, .threw T.heap.size, hrun, hend, Or.inr ⟨T.heap.size, rfl, cls, ce, locs, hx U hWs.alike f1 (fun q hq => f2 q hq (fun z hz => nomatch hz)), hce, hO.vm, hcl, hWs, hall, hf⟩⟩
  refine st1 _ ?_
  show Steps p.tables e below (T1.setTop { method := m, pc := pc + 3, locals := ls, stack := .ref T.heap.size :: rest, locked := none }) _
  jvm_step X₁.here [X₁.here.top, hexec, d3', Value.category]
  exact hsteps
/-- 'throw new E("text")': new; dup; ldc; invokespecial; athrow -/
theorem vx_throwS {cc : ByteArray} {pc : Nat} (hexec : p.tables.exec = Jvm.exec) (hb : c.code = cc) (hl : l.stackTraces = false) {own cls text : String} {names : List String} {ik is ic mc ms sa : Nat} {A : Nat → Prop}
    (hown : s.vm.findClass own = some m.cls) (hcls : Bundle.fit cls = true) (hnames : ∀ n ∈ names, Bundle.fit n = true)
    (hk : (Cond.classLink own ik cls).before args s = true) (hini : (Cond.initialized cls).before args s = true) (hstr : vk_R own is text sa s) (hat : ∀ w ∈ vx_atS own ic cls names, w.before args s = true)
    (hgood : ∀ w ∈ Cond.classLink own ik cls :: Cond.initialized cls :: vx_atS own ic cls names, vx_ot w = true)
    (hU : vx_Zq Bundle.tN "UNASSIGNED_STACK" Bundle.steD A s s.heap) (hN : vx_Zq Bundle.tN "SUPPRESSED_SENTINEL" Bundle.listD A s s.heap) (hS : va_S A s.heap H locs) (hsize : ls.size = c.maxLocals)
    (d0 : decode cc pc = .ok (.new ik, 3)) (d3 : decode cc (pc + 3) = .ok (.dup, 1)) (d4 : decode cc (pc + 4) = .ok (.ldc is, 2)) (d6 : decode cc (pc + 6) = .ok (.invokespecial ic, 3)) (d9 : decode cc (pc + 9) = .ok (.athrow, 1))
    (hout : ∀ x ∈ c.exceptionTable.toList, covers x (pc + 9) = false)
    (hRframes : names.length + 3 < R.frames) (hRlocals : (rest.map fun v => v.category).sum + (13 * (names.length + 1) + 43) ≤ R.locals) (hRcells : cells + 1 ≤ R.cells) (hRslots : slots + 6 ≤ R.slots) (hlocks : meth.locks = false)
    (hx : ∀ t : State, s.vm.Alike t.vm → H.size ≤ t.heap.size → (∀ q : Nat, q < H.size → t.heap[q]? = H[q]?) → XC cls s t)
    (hf : ∀ z ∈ locs, free z.base) (hc : cells + 1 ≤ mc) (hs : slots + 6 ≤ ms) :
    W p l e R s m args below meth c H locs cells slots (vx_MQ below Qc XC args s mc ms free) (F0 m pc ls rest) := by
  intro T hT X
  have htr : e.platform.stackTraces = false := (show e.platform.stackTraces = l.stackTraces by rw [X.admits.platform]).trans hl
  have Y := vx_rebase X (R' := { frames := R.frames, locals := R.locals, cells := 1, slots := 6 }) (Nat.le_refl _) (Nat.le_refl _) hRcells hRslots
  obtain ⟨s', hA⟩ : ∃ z, z = (T.setVm s.vm).setFrames (.invoking m args :: below) := ⟨_, rfl⟩
  rw [← hA] at Y
  have hvm : s'.vm = s.vm := by rw [hA]; rfl
  have hhp : s'.heap = H := by rw [hA]; exact hT
  have hW0 : s.WarmedH s'.vm := by rw [hvm]; exact State.WarmedH.refl s
  have hat' : ∀ w ∈ vx_atS own ic cls names, w.before args s' = true := fun w hw => vx_ot_at hW0 hvm.symm (hgood w (List.mem_cons_of_mem _ (List.mem_cons_of_mem _ hw))) (hat w hw)
  have hk' : (Cond.classLink own ik cls).before args s' = true := vx_ot_at hW0 hvm.symm (hgood _ List.mem_cons_self) hk
  have hini' : (Cond.initialized cls).before args s' = true := vx_ot_at hW0 hvm.symm (hgood _ (List.mem_cons_of_mem _ List.mem_cons_self)) hini
  have hU' : vx_Zq Bundle.tN "UNASSIGNED_STACK" Bundle.steD A s' s'.heap := by rw [hhp]; exact vx_Zq.moved hW0.alike (hU.kept hS.2.1)
  have hN' : vx_Zq Bundle.tN "SUPPRESSED_SENTINEL" Bundle.listD A s' s'.heap := by rw [hhp]; exact vx_Zq.moved hW0.alike (hN.kept hS.2.1)
  have h : ∀ w ∈ Bundle.ownAtoms own ic cls names, w.before args s' = true := vx_own hat' (vx_isRefq hU'.1) (vx_isRefq hN'.1) hU'.2.word hN'.2.word
  have hown' : s'.vm.findClass own = some m.cls := by rw [hvm]; exact hown
  have hins : (Cond.instantiable cls 6).before args s' = true := h _ (by simp [Bundle.ownAtoms])
  obtain ⟨vm₁, cX, kX, hfX, hkX, -, -, X₁, st1⟩ := Y.newCold hexec (own := own) (C := cls) (index := ik) (n := 6) hown' hk' hins hini'
    (g := F0 m pc ls rest) rfl (by rw [hb]; exact d0) (Nat.le_refl _) (Nat.le_refl _)
  generalize hT1 : (T.setVm vm₁).pushCell { cls := cX, slots := kX.instanceTypes.map defaultValue, vm := .none } = T1 at X₁ st1
  have hcat : (Value.ref T.heap.size).category = 1 := rfl
  have hcellA : T1.heap[T.heap.size]? = some (freshCell cX kX) := by rw [← hT1]; exact State.heap_pushCell_size _ _
  have d3' : decode c.code (pc + 3) = .ok (.dup, 1) := by rw [hb]; exact d3
  have d4' : decode c.code (pc + 4) = .ok (.ldc is, 2) := by rw [hb]; exact d4
  have hstr' : vk_R own is text sa s' := vk_R.warm hW0 hstr
  obtain ⟨U, hsteps, hrun, hend, hW, hsame, ce, hce, hO⟩ := X₁.ctorThrowS hexec htr (own := own) (cls := cls) (names := names) (ic := ic) hown' hcls hnames h (fun x hx => nomatch hx) hfX hkX hcellA (by rw [hhp, hT]; exact Nat.le_refl _) (msg := .ref sa) rfl
    (g := { method := m, pc := pc + 6, locals := ls, stack := .ref sa :: .ref T.heap.size :: .ref T.heap.size :: rest, locked := none }) rfl hsize rfl rfl (rest := rest) rfl
    (by rw [hb]; exact d6) (by rw [hb]; exact d9) hout hRframes (by simp only [List.map_cons, List.sum_cons, hcat]; omega) hlocks
  obtain ⟨f1, f2⟩ := vx_frame hsame
  rw [hhp] at f1 f2
  have hWs : s.WarmedH U.vm := State.WarmedH.trans hW0 hW
  have hcl : s.vm.findClass cls = some ce.cls := by
    have h9 := hO.cls
    rw [hvm] at h9
    exact h9
  have hall : s.sameButNew ({ U with vm := s.vm } : State) locs mc ms := by
    subst hA
    obtain ⟨e1, e2⟩ := hsame
    rw [State.setFrames_setFrames] at e1
    have h2 : (T.setVm s.vm).sameButNew ({ U with vm := s.vm } : State) [] (0 + 1) (0 + 6) := ⟨e1, e2⟩
    have h3 := X.same.trans h2
    rw [List.append_nil] at h3
    exact h3.mono hc hs
  refine ⟨U, ?_, .threw T.heap.size, hrun, hend, Or.inr ⟨T.heap.size, rfl, cls, ce, locs, hx U hWs.alike f1 (fun q hq => f2 q hq (fun z hz => nomatch hz)), hce, hO.vm, hcl, hWs, hall, hf⟩⟩
  refine st1 _ ?_
  show Steps p.tables e below (T1.setTop { method := m, pc := pc + 3, locals := ls, stack := .ref T.heap.size :: rest, locked := none }) _
  jvm_step X₁.here [X₁.here.top, hexec, d3', Value.category]
  exact X₁.ldcString hexec (own := own) (text := text) (index := is) (a := sa) hown' hstr'.1 hstr'.2
    (g := { method := m, pc := pc + 4, locals := ls, stack := .ref T.heap.size :: .ref T.heap.size :: rest, locked := none }) rfl d4' _ hsteps
/-- 'throw new E("text")', the text by a wide index -/
theorem vx_throwSW {cc : ByteArray} {pc : Nat} (hexec : p.tables.exec = Jvm.exec) (hb : c.code = cc) (hl : l.stackTraces = false) {own cls text : String} {names : List String} {ik is ic mc ms sa : Nat} {A : Nat → Prop}
    (hown : s.vm.findClass own = some m.cls) (hcls : Bundle.fit cls = true) (hnames : ∀ n ∈ names, Bundle.fit n = true)
    (hk : (Cond.classLink own ik cls).before args s = true) (hini : (Cond.initialized cls).before args s = true) (hstr : vk_R own is text sa s) (hat : ∀ w ∈ vx_atS own ic cls names, w.before args s = true)
    (hgood : ∀ w ∈ Cond.classLink own ik cls :: Cond.initialized cls :: vx_atS own ic cls names, vx_ot w = true)
    (hU : vx_Zq Bundle.tN "UNASSIGNED_STACK" Bundle.steD A s s.heap) (hN : vx_Zq Bundle.tN "SUPPRESSED_SENTINEL" Bundle.listD A s s.heap) (hS : va_S A s.heap H locs) (hsize : ls.size = c.maxLocals)
    (d0 : decode cc pc = .ok (.new ik, 3)) (d3 : decode cc (pc + 3) = .ok (.dup, 1)) (d4 : decode cc (pc + 4) = .ok (.ldc_w is, 3)) (d7 : decode cc (pc + 7) = .ok (.invokespecial ic, 3)) (d10 : decode cc (pc + 10) = .ok (.athrow, 1))
    (hout : ∀ x ∈ c.exceptionTable.toList, covers x (pc + 10) = false)
    (hRframes : names.length + 3 < R.frames) (hRlocals : (rest.map fun v => v.category).sum + (13 * (names.length + 1) + 43) ≤ R.locals) (hRcells : cells + 1 ≤ R.cells) (hRslots : slots + 6 ≤ R.slots) (hlocks : meth.locks = false)
    (hx : ∀ t : State, s.vm.Alike t.vm → H.size ≤ t.heap.size → (∀ q : Nat, q < H.size → t.heap[q]? = H[q]?) → XC cls s t)
    (hf : ∀ z ∈ locs, free z.base) (hc : cells + 1 ≤ mc) (hs : slots + 6 ≤ ms) :
    W p l e R s m args below meth c H locs cells slots (vx_MQ below Qc XC args s mc ms free) (F0 m pc ls rest) := by
  intro T hT X
  have htr : e.platform.stackTraces = false := (show e.platform.stackTraces = l.stackTraces by rw [X.admits.platform]).trans hl
  have Y := vx_rebase X (R' := { frames := R.frames, locals := R.locals, cells := 1, slots := 6 }) (Nat.le_refl _) (Nat.le_refl _) hRcells hRslots
  obtain ⟨s', hA⟩ : ∃ z, z = (T.setVm s.vm).setFrames (.invoking m args :: below) := ⟨_, rfl⟩
  rw [← hA] at Y
  have hvm : s'.vm = s.vm := by rw [hA]; rfl
  have hhp : s'.heap = H := by rw [hA]; exact hT
  have hW0 : s.WarmedH s'.vm := by rw [hvm]; exact State.WarmedH.refl s
  have hat' : ∀ w ∈ vx_atS own ic cls names, w.before args s' = true := fun w hw => vx_ot_at hW0 hvm.symm (hgood w (List.mem_cons_of_mem _ (List.mem_cons_of_mem _ hw))) (hat w hw)
  have hk' : (Cond.classLink own ik cls).before args s' = true := vx_ot_at hW0 hvm.symm (hgood _ List.mem_cons_self) hk
  have hini' : (Cond.initialized cls).before args s' = true := vx_ot_at hW0 hvm.symm (hgood _ (List.mem_cons_of_mem _ List.mem_cons_self)) hini
  have hU' : vx_Zq Bundle.tN "UNASSIGNED_STACK" Bundle.steD A s' s'.heap := by rw [hhp]; exact vx_Zq.moved hW0.alike (hU.kept hS.2.1)
  have hN' : vx_Zq Bundle.tN "SUPPRESSED_SENTINEL" Bundle.listD A s' s'.heap := by rw [hhp]; exact vx_Zq.moved hW0.alike (hN.kept hS.2.1)
  have h : ∀ w ∈ Bundle.ownAtoms own ic cls names, w.before args s' = true := vx_own hat' (vx_isRefq hU'.1) (vx_isRefq hN'.1) hU'.2.word hN'.2.word
  have hown' : s'.vm.findClass own = some m.cls := by rw [hvm]; exact hown
  have hins : (Cond.instantiable cls 6).before args s' = true := h _ (by simp [Bundle.ownAtoms])
  obtain ⟨vm₁, cX, kX, hfX, hkX, -, -, X₁, st1⟩ := Y.newCold hexec (own := own) (C := cls) (index := ik) (n := 6) hown' hk' hins hini'
    (g := F0 m pc ls rest) rfl (by rw [hb]; exact d0) (Nat.le_refl _) (Nat.le_refl _)
  generalize hT1 : (T.setVm vm₁).pushCell { cls := cX, slots := kX.instanceTypes.map defaultValue, vm := .none } = T1 at X₁ st1
  have hcat : (Value.ref T.heap.size).category = 1 := rfl
  have hcellA : T1.heap[T.heap.size]? = some (freshCell cX kX) := by rw [← hT1]; exact State.heap_pushCell_size _ _
  have d3' : decode c.code (pc + 3) = .ok (.dup, 1) := by rw [hb]; exact d3
  have d4' : decode c.code (pc + 4) = .ok (.ldc_w is, 3) := by rw [hb]; exact d4
  have hstr' : vk_R own is text sa s' := vk_R.warm hW0 hstr
  obtain ⟨U, hsteps, hrun, hend, hW, hsame, ce, hce, hO⟩ := X₁.ctorThrowS hexec htr (own := own) (cls := cls) (names := names) (ic := ic) hown' hcls hnames h (fun x hx => nomatch hx) hfX hkX hcellA (by rw [hhp, hT]; exact Nat.le_refl _) (msg := .ref sa) rfl
    (g := { method := m, pc := pc + 7, locals := ls, stack := .ref sa :: .ref T.heap.size :: .ref T.heap.size :: rest, locked := none }) rfl hsize rfl rfl (rest := rest) rfl
    (by rw [hb]; exact d7) (by rw [hb]; exact d10) hout hRframes (by simp only [List.map_cons, List.sum_cons, hcat]; omega) hlocks
  obtain ⟨f1, f2⟩ := vx_frame hsame
  rw [hhp] at f1 f2
  have hWs : s.WarmedH U.vm := State.WarmedH.trans hW0 hW
  have hcl : s.vm.findClass cls = some ce.cls := by
    have h9 := hO.cls
    rw [hvm] at h9
    exact h9
  have hall : s.sameButNew ({ U with vm := s.vm } : State) locs mc ms := by
    subst hA
    obtain ⟨e1, e2⟩ := hsame
    rw [State.setFrames_setFrames] at e1
    have h2 : (T.setVm s.vm).sameButNew ({ U with vm := s.vm } : State) [] (0 + 1) (0 + 6) := ⟨e1, e2⟩
    have h3 := X.same.trans h2
    rw [List.append_nil] at h3
    exact h3.mono hc hs
  refine ⟨U, ?_, .threw T.heap.size, hrun, hend, Or.inr ⟨T.heap.size, rfl, cls, ce, locs, hx U hWs.alike f1 (fun q hq => f2 q hq (fun z hz => nomatch hz)), hce, hO.vm, hcl, hWs, hall, hf⟩⟩
  refine st1 _ ?_
  show Steps p.tables e below (T1.setTop { method := m, pc := pc + 3, locals := ls, stack := .ref T.heap.size :: rest, locked := none }) _
  jvm_step X₁.here [X₁.here.top, hexec, d3', Value.category]
  exact X₁.ldcStringW hexec (own := own) (text := text) (index := is) (a := sa) hown' hstr'.1 hstr'.2
    (g := { method := m, pc := pc + 4, locals := ls, stack := .ref T.heap.size :: .ref T.heap.size :: rest, locked := none }) rfl d4' _ hsteps
end Ends
section Bodies
variable {l : Launch}
theorem vx_ofW {y : MethodName} {ws ws' : List Cond} {rm : Room} {Pc : Array Value → State → Prop} {Qc : Array Value → State → Outcome → State → Prop} {XC : String → State → State → Prop} {mc ms : Nat} {free : Addr → Prop} {cc : ByteArray} {maxL : Nat} {ret : Option FieldType}
    (hy : plainName y.cls = true) (hw : ws = Cond.code y cc maxL ret :: ws')
    (body : ∀ p e s m args below meth c s₁, BodyLoose p l y (headSpec ws rm) cc maxL ret e s m args below meth c s₁ → c.maxLocals = maxL → (∀ x ∈ c.exceptionTable.toList, False) → Pc args s →
      W p l e (headSpec ws rm).room s m args below meth c s.heap [] 0 0 (vx_MQ below Qc XC args s mc ms free) (entryFrame m args maxL)) : vx_Met l y ws rm Pc Qc XC mc ms free := by
  refine MetFree.of_bodyS (code := cc) (maxLocals := maxL) (ret := ret) hy ?_ ?_
  · intro args s m h hn
    obtain ⟨meth, c, h1, h2, h3, h4, h5, h6, -, -⟩ := Cond.code_spec hn (atoms_spec (ws := ws) h _ (by rw [hw]; exact List.mem_cons_self))
    exact ⟨meth, c, h1, h2, h3, h4, h5, h6⟩
  · intro p e s m args below meth c s₁ B hml hP _
    have hh0 : s₁.heap = s.heap := by rw [B.state]; rfl
    have ht : ∀ x ∈ c.exceptionTable.toList, False := by
      obtain ⟨meth9, c9, h1, h2, -, -, -, -, h7, -⟩ := Cond.code_spec B.named (atoms_spec (ws := ws) B.pre _ (by rw [hw]; exact List.mem_cons_self))
      cases Option.some.inj (h1.symm.trans B.method)
      cases Option.some.inj (h2.symm.trans (Stand.of_body B).code)
      intro x hx
      rw [Array.isEmpty_iff.mp h7] at hx
      cases hx
    obtain ⟨t, a1, o, b1, b2, b3⟩ := body p e s m args below meth c s₁ B hml ht hP s₁ hh0 (Stand.of_body B)
    exact ⟨t, o, a1, b1, b2, b3⟩
/-- the table of a body with handlers -/
theorem vx_table {p : Program} {x y : MethodName} {S : Spec} {cc bytes : ByteArray} {maxL maxL' : Nat} {ret ret' : Option FieldType} {e : Env} {s s₁ : State} {m : MethodId} {args : Array Value} {below : List Frame} {meth : Method} {c : Code} {hh : List (Nat × Nat × Nat × Nat)}
    (B : BodyLoose p l y S cc maxL ret e s m args below meth c s₁) (h : (Cond.codeWith y bytes maxL' ret' hh).before args s = true) : c.exceptionTable.toList = tableOf hh := by
  obtain ⟨m9, meth9, c9, hn9, h1, h2, -, -, h6, -⟩ := Cond.codeWith_spec h
  cases Option.some.inj (hn9.symm.trans B.named)
  cases Option.some.inj (h1.symm.trans B.method)
  cases Option.some.inj (h2.symm.trans (Stand.of_body B).code)
  rw [← h6, table_eq]
end Bodies
end VXA
/-! ===== END ===== -/
/-! ===== BEGIN a static call of a method with an exception table ===== -/
section VXS
variable {p : Program} {l : Launch} {e : Env} {R : Room} {s : State} {m : MethodId} {args : Array Value} {below : List Frame} {meth : Method} {c : Code} {T : State} {H : Heap} {locs : List Loc} {cells slots : Nat}
abbrev vx_CSW (R : Room) (s : State) (args : Array Value) (own : String) (index : Nat) (y : MethodName) (bytes : ByteArray) (maxL : Nat) (ret : Option FieldType) (hh : List (Nat × Nat × Nat × Nat)) (ws : List Cond) (rm : Room) (mc ms n : Nat) : Prop :=
  (rm.cells = mc ∧ rm.slots = ms ∧ rm.frames + 1 ≤ R.frames ∧ 8 + (maxL + 11) + rm.locals ≤ R.locals ∧ (∀ w ∈ ws, ∀ (a' : Array Value) (U : State), s.WarmedH U.vm → w.before a' U = true) ∧ Cond.codeWith y bytes maxL ret hh ∈ ws) ∧
  (Cond.codeWith y bytes maxL ret hh).before args s = true ∧ (Cond.initialized y.cls).before args s = true ∧ (y.cls ≠ "java/lang/invoke/MethodHandle" ∧ y.cls ≠ "java/lang/invoke/VarHandle") ∧
  (∀ sig, parseMethodDescriptor y.desc = some sig → n = sig.parameters.length) ∧ (Cond.methodLink own index y).before args s = true ∧ (Cond.static y).before args s = true
theorem vx_cwSW {own : String} {index maxL mc ms : Nat} {y : MethodName} {bytes : ByteArray} {ret : Option FieldType} {hh : List (Nat × Nat × Nat × Nat)} {Ts ws ws' : List Cond} {rm : Room} (n : Nat) (ht : ∀ w ∈ Ts, w.before args s = true) (hT : GoodIn Ts (va_wsS own index y ws)) (hw : ws = Cond.codeWith y bytes maxL ret hh :: ws') (hrc : rm.cells = mc) (hrs : rm.slots = ms)
    (hd : y.cls ≠ "java/lang/invoke/MethodHandle" ∧ y.cls ≠ "java/lang/invoke/VarHandle" ∧ (parseMethodDescriptor y.desc).map (fun d => d.parameters.length) = some n) (hR : rm.frames + 1 ≤ R.frames ∧ 8 + (maxL + 11) + rm.locals ≤ R.locals) :
    vx_CSW R s args own index y bytes maxL ret hh ws rm mc ms n := by
  have ok : ∀ w ∈ va_wsS own index y ws, w.before args s = true := fun w h => ht w (hT w h).1
  have hG : GoodIn Ts ws := fun w h => hT w (by unfold va_wsS; exact List.mem_append_right _ h)
  have hc : Cond.codeWith y bytes maxL ret hh ∈ ws := by rw [hw]; exact List.mem_cons_self
  refine ⟨⟨hrc, hrs, hR.1, hR.2, pay_in ht hG, hc⟩, ht _ (hG _ hc).1, ok _ (by simp [va_wsS]), ⟨hd.1, hd.2.1⟩, fun sig h => ?_, ok _ (by simp [va_wsS]), ok _ (by simp [va_wsS])⟩
  have h2 := hd.2.2
  rw [h] at h2
  exact (Option.some.inj h2).symm
theorem vx_callSW (X : Stand p l e R s m args below meth c T locs cells slots) (hexec : p.tables.exec = Jvm.exec) {own : String} {index : Nat} {y : MethodName} {bytes : ByteArray} {maxL : Nat} {ret : Option FieldType} {hh : List (Nat × Nat × Nat × Nat)}
    (hown : s.vm.findClass own = some m.cls) (hlink : (Cond.methodLink own index y).before args s = true) (hstat : (Cond.static y).before args s = true) (hinit : (Cond.initialized y.cls).before args s = true)
    (hcode : (Cond.codeWith y bytes maxL ret hh).before args s = true) (hy : y.cls ≠ "java/lang/invoke/MethodHandle" ∧ y.cls ≠ "java/lang/invoke/VarHandle")
    {W9 : Nat} {Pre : Pt → Array Value → Prop} {Post : Pt → Array Value → Option Value → Pt → Prop} (hK : Back l R p e below s args y 3 W9 Pre Post)
    {g : JFrame} (hg : g.method = m) (hsize : g.locals.size = c.maxLocals) {argsL rest : List Value} (hlen : ∀ sig, parseMethodDescriptor y.desc = some sig → argsL.length = sig.parameters.length)
    (hstack : g.stack = argsL.reverse ++ rest) (hW : 2 * g.monitorRoom + (rest.map fun v => v.category).sum ≤ W9) (hdg : decode c.code g.pc = .ok (.invokestatic index, 3))
    (hpre : ∀ vm₁, s.WarmedH vm₁ → Pre ⟨T.setVm vm₁, locs, cells, slots⟩ argsL.toArray) :
    ∃ (v : Option Value) (vm₁ : Vm) (B : Pt), s.WarmedH vm₁ ∧ Stand p l e R s m args below meth c B.U B.locs B.cells B.slots ∧ Post ⟨T.setVm vm₁, locs, cells, slots⟩ argsL.toArray v B ∧
      ∀ target, Steps p.tables e below (B.U.setTop { g with pc := g.pc + 3, stack := v.toList ++ rest }) target → Steps p.tables e below (T.setTop g) target := by
  obtain ⟨mk, methM, cM, hnamed, hmethM, -, -, -, -, -, -, hsigM⟩ := Cond.codeWith_spec hcode
  have hstatic : methM.isStatic = true := Cond.static_spec hnamed hmethM hstat
  obtain ⟨kP, hkP, -⟩ := className_of_methodNamed hnamed
  have hinitP : kP.init = .initialized := Cond.initialized_spec (findClass_of_methodNamed hnamed) hkP hinit
  obtain ⟨vm₁, X₁, hstep₁⟩ := X.invokestatic hexec hown hlink hnamed hmethM hstatic hkP hinitP hy (g := g) hg (argsL := argsL) (rest := rest) (hlen _ hsigM) hstack hdg
  obtain ⟨v, B, X', hpost, hsteps⟩ := hK m meth c ⟨T.setVm vm₁, locs, cells, slots⟩ { g with stack := rest } (.invokestatic index) mk argsL.toArray X₁ hg hsize hdg hW (X₁.named hnamed) (hpre vm₁ X₁.warmed)
  exact ⟨v, vm₁, B, X₁.warmed, X', hpost, fun target h => hstep₁ _ fun acts => by rw [doInvoke_state]; exact hsteps.trans h⟩
theorem vx_runSW {y : MethodName} {bytes cc : ByteArray} {maxL nL mc ms n index : Nat} {ret : Option FieldType} {hh : List (Nat × Nat × Nat × Nat)} {ws : List Cond} {rm : Room} {Pc : Array Value → State → Prop} {Qc : Array Value → State → Outcome → State → Prop} {free : Addr → Prop} {Ts : List Cond} {own : String} {As rest : List Value} {g : JFrame}
    (S : CallFix p m c cc nL s args Ts own) (hM : Met l y ws rm Pc Qc mc ms free) (cw : vx_CSW R s args own index y bytes maxL ret hh ws rm mc ms n) (hp : PreS s H Pc As)
    (hg : g.method = m) (hn : As.length = n) (hsize : g.locals.size = nL) (hstack : g.stack = As.reverse ++ rest) (hW : 2 * g.monitorRoom + (rest.map fun v => v.category).sum ≤ 8) (hdg : decode cc g.pc = .ok (.invokestatic index, 3)) (hf : cells + mc ≤ R.cells ∧ slots + ms ≤ R.slots) :
    va_Run p l e R s m args below meth c H locs cells slots mc ms g rest (Qc As.toArray) (free) := by
  obtain ⟨⟨hrc, hrs, hfr, hlo, hws, hcw⟩, hcode, hini, hy, hlen, hl, hstt⟩ := cw
  have hK : Back l R p e below s args y 3 8 (PreOf R mc ms Pc) (PostOf Qc mc ms free) := va_backW (hh := hh) (bytes := bytes) (maxL := maxL) (ret := ret) hM hp.1 hrc hrs hfr hlo hws hcw (fun a' U hW => word_at hW (Or.inl (by first | rfl | simp [Cond.onTables, Cond.keeps, Cond.steady])) hini)
  obtain ⟨hx, hb, hml, ho, -⟩ := S
  intro T hT X
  obtain ⟨v, vm₁, ⟨U', l2, c2, s2⟩, hW₁, X', ⟨g', mk, t, L, e1, e2, hq, h1, hL, h2, h3⟩, st⟩ := vx_callSW X hx (hh := hh) (bytes := bytes) (maxL := maxL) (ret := ret) ho hl hstt hini hcode hy hK hg (hsize.trans hml.symm) (argsL := As) (rest := rest) (fun sig h => hn.trans (hlen sig h)) hstack hW (by rw [hb]; exact hdg)
    (fun vm₁ hW₁ => ⟨hf.1, hf.2, hp.2 (T.setVm vm₁) hT hW₁⟩)
  dsimp only [Pt.U, Pt.locs, Pt.cells, Pt.slots] at X' e1 e2 h1 h2 h3 st
  subst h1; subst h2; subst h3
  exact ⟨v, (T.setVm vm₁).calling g' mk As.toArray, t, U', L, hT, X', hL, e1, e2, hq, st⟩
/-- not caught here, past rows that name other classes: it goes on to the caller -/
theorem vx_outP {p : Program} {l : Launch} {e : Env} {R : Room} {s : State} {m : MethodId} {args : Array Value} {below : List Frame} {meth : Method} {c : Code} {H : Heap} {locs : List Loc} {cells slots : Nat} {free : Addr → Prop} {ls : Array Slot} {rest : List Value} {Qc : Array Value → State → Outcome → State → Prop} {XC : String → State → State → Prop}
    {pc : Nat} {own E : String} {ce : Cell} {q : Addr} {mc ms : Nat} (hown : s.vm.findClass own = some m.cls) (hlocks : meth.locks = false)
    (hpass : ∀ z ∈ c.exceptionTable.toList, covers z pc = false ∨ (z.catchType ≠ 0 ∧ ∃ nm : String, (Cond.classLink own z.catchType nm).before args s = true ∧ va_Nc E nm s)) (hcell : H[q]? = some ce) (hv : ce.vm = .none) (hcl : s.vm.findClass E = some ce.cls)
    (hx : ∀ t : State, t.heap = H → s.vm.Alike t.vm → XC E s t) (hf : ∀ z ∈ locs, free z.base) (hc : cells ≤ mc) (hs : slots ≤ ms) :
    vx_W p l e R s m args below meth c H locs cells slots (vx_MQ below Qc XC args s mc ms free) (F0 m pc ls rest) q := by
  intro T hT X
  have hpl : e.platform.magicAccessors = ({} : Platform).magicAccessors := by rw [X.admits.platform]
  obtain ⟨vm', hW', X', st⟩ := X.outThrough hlocks q (g := F0 m pc ls rest) rfl rfl rfl (cell := ce) (by rw [hT]; exact hcell) (by rw [hv]; rfl)
    (by obtain ⟨k9, h9, -⟩ := Vm.findClass_spec hcl; exact ⟨k9, h9⟩) (fun z hz => by
      rcases hpass z hz with h | ⟨hz0, nm, hl1, hn1⟩
      · exact Or.inl h
      · obtain ⟨c6, hc6, hcl6⟩ := Cond.classLink_spec hown hl1 e.platform hpl
        obtain ⟨a8, b8, h1, h2, h3⟩ := hn1
        cases Option.some.inj (h1.symm.trans hcl)
        cases Option.some.inj (h2.symm.trans hc6)
        exact Or.inr ⟨hz0, _, hcl6, h3⟩)
  obtain ⟨g₀, hfr⟩ := X'.frames_eq
  have hcell9 : ((T.setVm vm').setFrames (.throwing q :: below)).heap[q]? = some ce := by
    show T.heap[q]? = some ce
    rw [hT]; exact hcell
  have hend : Ended ((T.setVm vm').setFrames (.throwing q :: below)) below (.threw q) := State.frames_setFrames _ (State.cur_lt_of_frames hfr)
  refine ⟨(T.setVm vm').setFrames (.throwing q :: below), ?_, .threw q, X'.here.running, hend, Or.inr ⟨q, rfl, E, ce, locs, hx _ hT (X'.ends _).1.alike, hcell9, hv, hcl, (X'.ends _).1, (X'.ends _).2.mono hc hs, hf⟩⟩
  rw [X.pushThrowing_eq]
  exact st
/-- a thing of a world lies in the heap -/
theorem vx_lt {D : va_G} {cl : List vw_C} {ws : va_W} {H1 : Heap} (h : va_P D cl ws H1) {k : Nat} {q : Nat × va_E} (hk : ws[k]? = some q) : q.1 < H1.size := (h k q hk).lt
end VXS
/-! ===== END ===== -/
/-! ===== BEGIN methods with a table of their own: called by a name, returning or throwing ===== -/
section VXH
/-! vx_backW, vx_callVX, vx_callSX, vx_callVW, vx_runVW, vx_runVX, vx_runSX, vx_ofWH follow the same proofs as their sisters above (Free/Laws.lean, Shelf42/LK1.lean); vx_outP calls Shelf42/NT130.lean (outThrough). -/
section
variable {l : Launch} {R : Room} {p : Program} {e : Env} {below : List Frame} {s : State} {sargs : Array Value} {y : MethodName} {len W9 : Nat}
theorem vx_backW {ws : List Cond} {rm : Room} {Pc : Array Value → State → Prop} {Qc : Array Value → State → Outcome → State → Prop} {XC : String → State → State → Prop} {mc ms : Nat} {free : Addr → Prop} {bytes : ByteArray} {maxL : Nat} {ret : Option FieldType} {hh : List (Nat × Nat × Nat × Nat)}
    (hM : vx_Met l y ws rm Pc Qc XC mc ms free) (hblind : FrameBlind Pc) (hrc : rm.cells = mc) (hrs : rm.slots = ms)
    (hframes : rm.frames + 1 ≤ R.frames) (hlocals : W9 + (maxL + 11) + rm.locals ≤ R.locals)
    (hws : ∀ w ∈ ws, ∀ a' U, s.WarmedH U.vm → w.before a' U = true) (hcode : Cond.codeWith y bytes maxL ret hh ∈ ws) (hinit : ∀ a' U, s.WarmedH U.vm → (Cond.initialized y.cls).before a' U = true) :
    vx_Back l R p e below s sargs y len W9 (PreOf R mc ms Pc) (PostOf Qc mc ms free) (vx_Post XC mc ms free) := by
  intro m meth c A g ig mk a X hg hsize hdg hW hn hp
  have h1 : (headSpec ws rm).pre.before a A.U = true := atoms_intro fun w hw => hws w hw _ _ X.warmed
  have h2 : (Cond.codeWith y bytes maxL ret hh).before a A.U = true := hws _ hcode _ _ X.warmed
  have h3 : (Cond.initialized y.cls).before a A.U = true := hinit _ _ X.warmed
  have h4 : A.cells + (headSpec ws rm).room.cells ≤ R.cells := by rw [show (headSpec ws rm).room.cells = mc from hrc]; exact hp.1
  have h5 : A.slots + (headSpec ws rm).room.slots ≤ R.slots := by rw [show (headSpec ws rm).room.slots = ms from hrs]; exact hp.2.1
  have hPc : Pc a (A.U.calling g mk a) := hblind _ _ _ _ hp.2.2
  obtain ⟨U, Ls, c0, s0⟩ := A
  dsimp only [Pt.U, Pt.locs, Pt.cells, Pt.slots] at h1 h2 h3 h4 h5 X hn hPc ⊢
  obtain ⟨m9, methY, cY, hn9, hmY, hcY, -, hlY, -⟩ := Cond.codeWith_spec h2
  cases Option.some.inj (hn9.symm.trans hn)
  obtain ⟨kY, hkY, -⟩ := className_of_methodNamed hn
  have hinitY : kY.init = .initialized := Cond.initialized_spec (findClass_of_methodNamed hn) hkY h3
  have h : At U g.method c below := by rw [hg]; exact X.here
  have hlocals9 : W9 + (maxL + 11) + (headSpec ws rm).room.locals ≤ R.locals := hlocals
  have happ : (headSpec ws rm).appliesLoose y e.platform (U.calling g mk a) = true :=
    Spec.appliesLoose_calling (g := g) h hdg hn hkY hinitY
      (X.room_calling (g := g) (R' := (headSpec ws rm).room) hsize hmY hcY hframes (by rw [hlY]; omega) h4 h5) h1
  obtain ⟨mid, hmid⟩ := h.above
  have hfr : (U.setTop g).frames = (.java g :: mid) ++ below := by rw [State.frames_setTop' g h.top, hmid]; rfl
  obtain ⟨o, s₂, hsteps, -, hend, hq⟩ := Steps.callFree hM p X.admits X.cas X.clock (acts := []) hfr happ hPc trivial
  have hq' : vx_Q Qc XC mc ms free a (U.calling g mk a) o s₂ := hq
  rw [State.frames_setTop' g h.top] at hend
  obtain ⟨g₀, hg0⟩ := Option.isSome_iff_exists.mp h.top
  obtain ⟨r, hr⟩ := State.topJava?_eq_some.mp hg0
  have hr' : (({ U with heap := s₂.heap, slotsUsed := s₂.slotsUsed } : State).setVm s₂.vm).frames = .java g₀ :: r := hr
  rcases hq' with ⟨hqc, L, hfe, hL⟩ | ⟨q, rfl, E, ce, L, hx, hce, hcv, hcl, hW₂, hsm, hL⟩
  · obtain ⟨⟨v, rfl⟩, hW₂, e2, q2, q3, q4, q5, q6⟩ := id hfe
    have e3 : s₂ = ({ (U.calling g mk a).setFrames s₂.frames with heap := s₂.heap, slotsUsed := s₂.slotsUsed } : State).setVm s₂.vm := by
      have : s₂ = ({ s₂ with vm := (U.calling g mk a).vm } : State).setVm s₂.vm := rfl
      rw [e2] at this
      exact this
    obtain ⟨c₂, i₂, len₂, hc₂, hd₂, hf₂⟩ := hend
    have hW' : U.WarmedH s₂.vm := hW₂
    have hcc : c₂ = c := by
      have h1 : s₂.code? g.method = U.code? g.method := by
        rw [State.code?_eq, State.code?_eq, hW'.alike.method?]
      exact Option.some.inj (hc₂.symm.trans (h1.trans h.code))
    subst hcc
    have hlen : len₂ = len := by rw [hdg] at hd₂; cases hd₂; rfl
    subst hlen
    have hs₂ : s₂ = (({ U with heap := s₂.heap, slotsUsed := s₂.slotsUsed } : State).setVm s₂.vm).setTop { g with pc := g.pc + len₂, stack := v.toList ++ g.stack } := by
      refine e3.trans ?_
      rw [hf₂, State.calling_eq h.top, State.setFrames_setFrames, State.setTop_of_frames _ hr', hr]
      rfl
    have hsame : U.sameButNew ({ U with heap := s₂.heap, slotsUsed := s₂.slotsUsed } : State) L mc ms := by
      refine ⟨?_, q2, q3, q4, q5, q6⟩
      obtain ⟨t, ht, -⟩ := State.frames_cons hr
      show ({ U with heap := s₂.heap, slotsUsed := s₂.slotsUsed } : State) = { U.setFrames U.frames with heap := s₂.heap, slotsUsed := s₂.slotsUsed }
      rw [State.setFrames_self ht]
    subst hg
    refine Or.inl ⟨v, ⟨(({ U with heap := s₂.heap, slotsUsed := s₂.slotsUsed } : State).setVm s₂.vm), Ls ++ L, c0 + mc, s0 + ms⟩,
      ⟨X.admits, X.cas, X.clock, X.frames, X.room, X.hears, X.method, X.code, (X.here.setHeapUsed s₂.heap s₂.slotsUsed).setVm hW'.alike, X.tail, State.WarmedH.trans X.warmed hW', X.limits, X.bytes, X.same.trans (hsame.setVm s.vm)⟩,
      ⟨g, mk, s₂, L, rfl, rfl, hqc, rfl, hL, rfl, rfl⟩, ?_⟩
    show Steps p.tables e below _ ((({ U with heap := s₂.heap, slotsUsed := s₂.slotsUsed } : State).setVm s₂.vm).setTop { g with pc := g.pc + len₂, stack := v.toList ++ g.stack })
    rw [← hs₂]
    exact hsteps
  · obtain ⟨e2, q2, q3, q4, q5, q6⟩ := id hsm
    have e3 : s₂ = ({ (U.calling g mk a).setFrames s₂.frames with heap := s₂.heap, slotsUsed := s₂.slotsUsed } : State).setVm s₂.vm := by
      have : s₂ = ({ s₂ with vm := (U.calling g mk a).vm } : State).setVm s₂.vm := rfl
      rw [e2] at this
      exact this
    have hf₂ : s₂.frames = .throwing q :: .java g :: U.frames.tail := hend
    have hW' : U.WarmedH s₂.vm := hW₂
    have hs₂ : s₂ = ((({ U with heap := s₂.heap, slotsUsed := s₂.slotsUsed } : State).setVm s₂.vm).setTop g).pushFrame (.throwing q) := by
      refine e3.trans ?_
      rw [hf₂, State.calling_eq h.top, State.setFrames_setFrames, State.pushFrame, State.frames_setTop _ hr', State.setTop_of_frames _ hr', State.setFrames_setFrames, hr]
      rfl
    have hsame : U.sameButNew ({ U with heap := s₂.heap, slotsUsed := s₂.slotsUsed } : State) L mc ms := by
      refine ⟨?_, q2, q3, q4, q5, q6⟩
      obtain ⟨t, ht, -⟩ := State.frames_cons hr
      show ({ U with heap := s₂.heap, slotsUsed := s₂.slotsUsed } : State) = { U.setFrames U.frames with heap := s₂.heap, slotsUsed := s₂.slotsUsed }
      rw [State.setFrames_self ht]
    subst hg
    refine Or.inr ⟨q, ⟨(({ U with heap := s₂.heap, slotsUsed := s₂.slotsUsed } : State).setVm s₂.vm), Ls ++ L, c0 + mc, s0 + ms⟩,
      ⟨X.admits, X.cas, X.clock, X.frames, X.room, X.hears, X.method, X.code, (X.here.setHeapUsed s₂.heap s₂.slotsUsed).setVm hW'.alike, X.tail, State.WarmedH.trans X.warmed hW', X.limits, X.bytes, X.same.trans (hsame.setVm s.vm)⟩,
      ⟨g, mk, s₂, L, E, ce, rfl, rfl, hx, hce, hcv, hcl, rfl, hL, rfl, rfl⟩, ?_⟩
    show Steps p.tables e below _ (((({ U with heap := s₂.heap, slotsUsed := s₂.slotsUsed } : State).setVm s₂.vm).setTop g).pushFrame (.throwing q))
    rw [← hs₂]
    exact hsteps
end
variable {p : Program} {l : Launch} {e : Env} {R : Room} {s : State} {m : MethodId} {args : Array Value} {below : List Frame} {meth : Method} {c : Code} {T : State} {H : Heap} {locs : List Loc} {cells slots : Nat}
theorem vx_callVX (X : Stand p l e R s m args below meth c T locs cells slots) (hexec : p.tables.exec = Jvm.exec) {own C : String} {index : Nat} {y : MethodName} {bytes : ByteArray} {maxL : Nat} {ret : Option FieldType} {hh : List (Nat × Nat × Nat × Nat)}
    (hown : s.vm.findClass own = some m.cls) (hlink : (Cond.methodLink own index y).before args s = true) (hinst : (Cond.instanceMethod y).before args s = true) (hsel : (Cond.selects C y y).before args s = true)
    (hcode : (Cond.codeWith y bytes maxL ret hh).before args s = true) (hy : y.cls ≠ "java/lang/invoke/MethodHandle" ∧ y.cls ≠ "java/lang/invoke/VarHandle")
    {W9 : Nat} {Pre : Pt → Array Value → Prop} {Post : Pt → Array Value → Option Value → Pt → Prop} {PostX : Pt → Array Value → Addr → Pt → Prop} (hK : vx_Back l R p e below s args y 3 W9 Pre Post PostX)
    {b : Addr} {cellB : Cell} (hcell : T.heap[b]? = some cellB) (hobj : cellB.vm.isStatics = false) (hcls : s.vm.findClass C = some cellB.cls)
    {g : JFrame} (hg : g.method = m) (hsize : g.locals.size = c.maxLocals) {argsL rest : List Value} (hlen : ∀ sig, parseMethodDescriptor y.desc = some sig → argsL.length = sig.parameters.length)
    (hstack : g.stack = argsL.reverse ++ .ref b :: rest) (hW : 2 * g.monitorRoom + (rest.map fun v => v.category).sum ≤ W9) (hdg : decode c.code g.pc = .ok (.invokevirtual index, 3))
    (hpre : ∀ vm₁, s.WarmedH vm₁ → Pre ⟨T.setVm vm₁, locs, cells, slots⟩ (Value.ref b :: argsL).toArray) :
    (∃ (v : Option Value) (vm₁ : Vm) (B : Pt), s.WarmedH vm₁ ∧ Stand p l e R s m args below meth c B.U B.locs B.cells B.slots ∧ Post ⟨T.setVm vm₁, locs, cells, slots⟩ (Value.ref b :: argsL).toArray v B ∧
      ∀ target, Steps p.tables e below (B.U.setTop { g with pc := g.pc + 3, stack := v.toList ++ rest }) target → Steps p.tables e below (T.setTop g) target) ∨
    (∃ (q : Addr) (vm₁ : Vm) (B : Pt), s.WarmedH vm₁ ∧ Stand p l e R s m args below meth c B.U B.locs B.cells B.slots ∧ PostX ⟨T.setVm vm₁, locs, cells, slots⟩ (Value.ref b :: argsL).toArray q B ∧
      Steps p.tables e below (T.setTop g) ((B.U.setTop { g with stack := rest }).pushFrame (.throwing q))) := by
  obtain ⟨mk, methM, hnamed, hmethM, hstM, habM⟩ := Cond.instanceMethod_spec hinst
  obtain ⟨m8, methM', cM, hn8, hmethM', -, -, -, -, -, -, hsigM⟩ := Cond.codeWith_spec hcode
  cases Option.some.inj (hn8.symm.trans hnamed)
  cases hmethM.symm.trans hmethM'
  obtain ⟨c2, r2, m2, q1, q2, q3, q4, kP, hkP, hkPi⟩ := Cond.selects_spec hsel
  cases hcls.symm.trans q1
  cases (State.methodFound?_of_named hnamed hy).symm.trans q2
  cases hnamed.symm.trans q3
  have hselP : selectMethod e.platform s.vm cellB.cls mk = .method mk := by rw [Launch.admits_selectMethod X.admits]; exact q4
  obtain ⟨vm₁, X₁, hstep₁⟩ := X.invokevirtual hexec hown hlink hnamed hmethM hstM hkP hkPi hy (a := b) (cell := cellB) hcell
    (fun z h => by rw [h] at hobj; cases hobj) hselP hmethM habM hkP hkPi (g := g) hg (argsL := argsL) (rest := rest) (hlen _ hsigM) hstack hdg
  rcases hK m meth c ⟨T.setVm vm₁, locs, cells, slots⟩ { g with stack := rest } (.invokevirtual index) mk (Value.ref b :: argsL).toArray X₁ hg hsize hdg hW (X₁.named hnamed) (hpre vm₁ X₁.warmed) with ⟨v, B, X', hpost, hsteps⟩ | ⟨q, B, X', hpost, hsteps⟩
  · exact Or.inl ⟨v, vm₁, B, X₁.warmed, X', hpost, fun target h => hstep₁ _ fun acts => by rw [doInvoke_state]; exact hsteps.trans h⟩
  · exact Or.inr ⟨q, vm₁, B, X₁.warmed, X', hpost, hstep₁ _ fun acts => by rw [doInvoke_state]; exact hsteps⟩
theorem vx_callSX (X : Stand p l e R s m args below meth c T locs cells slots) (hexec : p.tables.exec = Jvm.exec) {own : String} {index : Nat} {y : MethodName} {bytes : ByteArray} {maxL : Nat} {ret : Option FieldType} {hh : List (Nat × Nat × Nat × Nat)}
    (hown : s.vm.findClass own = some m.cls) (hlink : (Cond.methodLink own index y).before args s = true) (hstat : (Cond.static y).before args s = true) (hinit : (Cond.initialized y.cls).before args s = true)
    (hcode : (Cond.codeWith y bytes maxL ret hh).before args s = true) (hy : y.cls ≠ "java/lang/invoke/MethodHandle" ∧ y.cls ≠ "java/lang/invoke/VarHandle")
    {W9 : Nat} {Pre : Pt → Array Value → Prop} {Post : Pt → Array Value → Option Value → Pt → Prop} {PostX : Pt → Array Value → Addr → Pt → Prop} (hK : vx_Back l R p e below s args y 3 W9 Pre Post PostX)
    {g : JFrame} (hg : g.method = m) (hsize : g.locals.size = c.maxLocals) {argsL rest : List Value} (hlen : ∀ sig, parseMethodDescriptor y.desc = some sig → argsL.length = sig.parameters.length)
    (hstack : g.stack = argsL.reverse ++ rest) (hW : 2 * g.monitorRoom + (rest.map fun v => v.category).sum ≤ W9) (hdg : decode c.code g.pc = .ok (.invokestatic index, 3))
    (hpre : ∀ vm₁, s.WarmedH vm₁ → Pre ⟨T.setVm vm₁, locs, cells, slots⟩ argsL.toArray) :
    (∃ (v : Option Value) (vm₁ : Vm) (B : Pt), s.WarmedH vm₁ ∧ Stand p l e R s m args below meth c B.U B.locs B.cells B.slots ∧ Post ⟨T.setVm vm₁, locs, cells, slots⟩ argsL.toArray v B ∧
      ∀ target, Steps p.tables e below (B.U.setTop { g with pc := g.pc + 3, stack := v.toList ++ rest }) target → Steps p.tables e below (T.setTop g) target) ∨
    (∃ (q : Addr) (vm₁ : Vm) (B : Pt), s.WarmedH vm₁ ∧ Stand p l e R s m args below meth c B.U B.locs B.cells B.slots ∧ PostX ⟨T.setVm vm₁, locs, cells, slots⟩ argsL.toArray q B ∧
      Steps p.tables e below (T.setTop g) ((B.U.setTop { g with stack := rest }).pushFrame (.throwing q))) := by
  obtain ⟨mk, methM, cM, hnamed, hmethM, -, -, -, -, -, -, hsigM⟩ := Cond.codeWith_spec hcode
  have hstatic : methM.isStatic = true := Cond.static_spec hnamed hmethM hstat
  obtain ⟨kP, hkP, -⟩ := className_of_methodNamed hnamed
  have hinitP : kP.init = .initialized := Cond.initialized_spec (findClass_of_methodNamed hnamed) hkP hinit
  obtain ⟨vm₁, X₁, hstep₁⟩ := X.invokestatic hexec hown hlink hnamed hmethM hstatic hkP hinitP hy (g := g) hg (argsL := argsL) (rest := rest) (hlen _ hsigM) hstack hdg
  rcases hK m meth c ⟨T.setVm vm₁, locs, cells, slots⟩ { g with stack := rest } (.invokestatic index) mk argsL.toArray X₁ hg hsize hdg hW (X₁.named hnamed) (hpre vm₁ X₁.warmed) with ⟨v, B, X', hpost, hsteps⟩ | ⟨q, B, X', hpost, hsteps⟩
  · exact Or.inl ⟨v, vm₁, B, X₁.warmed, X', hpost, fun target h => hstep₁ _ fun acts => by rw [doInvoke_state]; exact hsteps.trans h⟩
  · exact Or.inr ⟨q, vm₁, B, X₁.warmed, X', hpost, hstep₁ _ fun acts => by rw [doInvoke_state]; exact hsteps⟩
theorem vx_callVW (X : Stand p l e R s m args below meth c T locs cells slots) (hexec : p.tables.exec = Jvm.exec) {own C : String} {index : Nat} {y : MethodName} {bytes : ByteArray} {maxL : Nat} {ret : Option FieldType} {hh : List (Nat × Nat × Nat × Nat)}
    (hown : s.vm.findClass own = some m.cls) (hlink : (Cond.methodLink own index y).before args s = true) (hinst : (Cond.instanceMethod y).before args s = true) (hsel : (Cond.selects C y y).before args s = true)
    (hcode : (Cond.codeWith y bytes maxL ret hh).before args s = true) (hy : y.cls ≠ "java/lang/invoke/MethodHandle" ∧ y.cls ≠ "java/lang/invoke/VarHandle")
    {W9 : Nat} {Pre : Pt → Array Value → Prop} {Post : Pt → Array Value → Option Value → Pt → Prop} (hK : Back l R p e below s args y 3 W9 Pre Post)
    {b : Addr} {cellB : Cell} (hcell : T.heap[b]? = some cellB) (hobj : cellB.vm.isStatics = false) (hcls : s.vm.findClass C = some cellB.cls)
    {g : JFrame} (hg : g.method = m) (hsize : g.locals.size = c.maxLocals) {argsL rest : List Value} (hlen : ∀ sig, parseMethodDescriptor y.desc = some sig → argsL.length = sig.parameters.length)
    (hstack : g.stack = argsL.reverse ++ .ref b :: rest) (hW : 2 * g.monitorRoom + (rest.map fun v => v.category).sum ≤ W9) (hdg : decode c.code g.pc = .ok (.invokevirtual index, 3))
    (hpre : ∀ vm₁, s.WarmedH vm₁ → Pre ⟨T.setVm vm₁, locs, cells, slots⟩ (Value.ref b :: argsL).toArray) :
    ∃ (v : Option Value) (vm₁ : Vm) (B : Pt), s.WarmedH vm₁ ∧ Stand p l e R s m args below meth c B.U B.locs B.cells B.slots ∧ Post ⟨T.setVm vm₁, locs, cells, slots⟩ (Value.ref b :: argsL).toArray v B ∧
      ∀ target, Steps p.tables e below (B.U.setTop { g with pc := g.pc + 3, stack := v.toList ++ rest }) target → Steps p.tables e below (T.setTop g) target := by
  obtain ⟨mk, methM, hnamed, hmethM, hstM, habM⟩ := Cond.instanceMethod_spec hinst
  obtain ⟨m8, methM', cM, hn8, hmethM', -, -, -, -, -, -, hsigM⟩ := Cond.codeWith_spec hcode
  cases Option.some.inj (hn8.symm.trans hnamed)
  cases hmethM.symm.trans hmethM'
  obtain ⟨c2, r2, m2, q1, q2, q3, q4, kP, hkP, hkPi⟩ := Cond.selects_spec hsel
  cases hcls.symm.trans q1
  cases (State.methodFound?_of_named hnamed hy).symm.trans q2
  cases hnamed.symm.trans q3
  have hselP : selectMethod e.platform s.vm cellB.cls mk = .method mk := by rw [Launch.admits_selectMethod X.admits]; exact q4
  obtain ⟨vm₁, X₁, hstep₁⟩ := X.invokevirtual hexec hown hlink hnamed hmethM hstM hkP hkPi hy (a := b) (cell := cellB) hcell
    (fun z h => by rw [h] at hobj; cases hobj) hselP hmethM habM hkP hkPi (g := g) hg (argsL := argsL) (rest := rest) (hlen _ hsigM) hstack hdg
  obtain ⟨v, B, X', hpost, hsteps⟩ := hK m meth c ⟨T.setVm vm₁, locs, cells, slots⟩ { g with stack := rest } (.invokevirtual index) mk (Value.ref b :: argsL).toArray X₁ hg hsize hdg hW (X₁.named hnamed) (hpre vm₁ X₁.warmed)
  exact ⟨v, vm₁, B, X₁.warmed, X', hpost, fun target h => hstep₁ _ fun acts => by rw [doInvoke_state]; exact hsteps.trans h⟩
abbrev vx_CVW (R : Room) (s : State) (args : Array Value) (own C : String) (index : Nat) (y : MethodName) (bytes : ByteArray) (maxL : Nat) (ret : Option FieldType) (hh : List (Nat × Nat × Nat × Nat)) (ws : List Cond) (rm : Room) (mc ms n : Nat) : Prop :=
  (rm.cells = mc ∧ rm.slots = ms ∧ rm.frames + 1 ≤ R.frames ∧ 8 + (maxL + 11) + rm.locals ≤ R.locals ∧ (∀ w ∈ ws, ∀ (a' : Array Value) (U : State), s.WarmedH U.vm → w.before a' U = true) ∧ Cond.codeWith y bytes maxL ret hh ∈ ws) ∧
  (Cond.codeWith y bytes maxL ret hh).before args s = true ∧ (Cond.initialized y.cls).before args s = true ∧ (y.cls ≠ "java/lang/invoke/MethodHandle" ∧ y.cls ≠ "java/lang/invoke/VarHandle") ∧
  (∀ sig, parseMethodDescriptor y.desc = some sig → n = sig.parameters.length) ∧ (Cond.methodLink own index y).before args s = true ∧ (Cond.instanceMethod y).before args s = true ∧ (Cond.selects C y y).before args s = true
theorem vx_cwVW {own C : String} {index maxL mc ms : Nat} {y : MethodName} {bytes : ByteArray} {ret : Option FieldType} {hh : List (Nat × Nat × Nat × Nat)} {Ts ws ws' : List Cond} {rm : Room} (n : Nat) (ht : ∀ w ∈ Ts, w.before args s = true) (hT : GoodIn Ts (wsV own index C y ws)) (hw : ws = Cond.codeWith y bytes maxL ret hh :: ws') (hrc : rm.cells = mc) (hrs : rm.slots = ms)
    (hd : y.cls = C ∧ y.cls ≠ "java/lang/invoke/MethodHandle" ∧ y.cls ≠ "java/lang/invoke/VarHandle" ∧ (parseMethodDescriptor y.desc).map (fun d => d.parameters.length) = some n) (hR : rm.frames + 1 ≤ R.frames ∧ 8 + (maxL + 11) + rm.locals ≤ R.locals) :
    vx_CVW R s args own C index y bytes maxL ret hh ws rm mc ms n := by
  obtain ⟨hC, hd⟩ := hd
  subst hC
  have ok : ∀ w ∈ wsV own index y.cls y ws, w.before args s = true := fun w h => ht w (hT w h).1
  have hG : GoodIn Ts ws := fun w h => hT w (by unfold wsV; exact List.mem_append_right _ h)
  have hc : Cond.codeWith y bytes maxL ret hh ∈ ws := by rw [hw]; exact List.mem_cons_self
  refine ⟨⟨hrc, hrs, hR.1, hR.2, pay_in ht hG, hc⟩, ht _ (hG _ hc).1, ok _ (by simp [wsV]), ⟨hd.1, hd.2.1⟩, fun sig h => ?_, ok _ (by simp [wsV]), ok _ (by simp [wsV]), ok _ (by simp [wsV])⟩
  have h2 := hd.2.2
  rw [h] at h2
  exact (Option.some.inj h2).symm
theorem vx_runVW {y : MethodName} {bytes cc : ByteArray} {maxL nL mc ms n index : Nat} {ret : Option FieldType} {hh : List (Nat × Nat × Nat × Nat)} {ws : List Cond} {rm : Room} {Pc : Array Value → State → Prop} {Qc : Array Value → State → Outcome → State → Prop} {free : Addr → Prop} {Ts : List Cond} {own C : String} {b : Addr} {As rest : List Value} {g : JFrame}
    (S : CallFix p m c cc nL s args Ts own) (hM : Met l y ws rm Pc Qc mc ms free) (cw : vx_CVW R s args own C index y bytes maxL ret hh ws rm mc ms n) (hp : PreV s H C b Pc As)
    (hg : g.method = m) (hn : As.length = n) (hsize : g.locals.size = nL) (hstack : g.stack = As.reverse ++ .ref b :: rest) (hW : 2 * g.monitorRoom + (rest.map fun v => v.category).sum ≤ 8) (hdg : decode cc g.pc = .ok (.invokevirtual index, 3)) (hf : cells + mc ≤ R.cells ∧ slots + ms ≤ R.slots) :
    va_Run p l e R s m args below meth c H locs cells slots mc ms g rest (Qc (Value.ref b :: As).toArray) free := by
  obtain ⟨⟨hrc, hrs, hfr, hlo, hws, hcw⟩, hcode, hini, hy, hlen, hl, hin, hse⟩ := cw
  have hK : Back l R p e below s args y 3 8 (PreOf R mc ms Pc) (PostOf Qc mc ms free) := va_backW (hh := hh) (bytes := bytes) (maxL := maxL) (ret := ret) hM hp.1 hrc hrs hfr hlo hws hcw (fun a' U hW => word_at hW (Or.inl (by first | rfl | simp [Cond.onTables, Cond.keeps, Cond.steady])) hini)
  obtain ⟨hx, hb, hml, ho, -⟩ := S
  obtain ⟨-, ⟨cellB, hcB, hoB, hclB⟩, hPc⟩ := hp
  intro T hT X
  obtain ⟨v, vm₁, ⟨U', l2, c2, s2⟩, hW₁, X', ⟨g', mk, t, L, e1, e2, hq, h1, hL, h2, h3⟩, st⟩ := vx_callVW X hx (C := C) (hh := hh) (bytes := bytes) (maxL := maxL) (ret := ret) ho hl hin hse hcode hy hK (by rw [hT]; exact hcB) hoB hclB hg (hsize.trans hml.symm) (argsL := As) (rest := rest) (fun sig h => hn.trans (hlen sig h)) hstack hW (by rw [hb]; exact hdg)
    (fun vm₁ hW₁ => ⟨hf.1, hf.2, hPc (T.setVm vm₁) hT hW₁⟩)
  dsimp only [Pt.U, Pt.locs, Pt.cells, Pt.slots] at X' e1 e2 h1 h2 h3 st
  subst h1; subst h2; subst h3
  exact ⟨v, (T.setVm vm₁).calling g' mk (Value.ref b :: As).toArray, t, U', L, hT, X', hL, e1, e2, hq, st⟩
section
variable {y : MethodName} {bytes cc : ByteArray} {maxL nL mc ms n index : Nat} {ret : Option FieldType} {ws : List Cond} {rm : Room} {Pc : Array Value → State → Prop} {Qc : Array Value → State → Outcome → State → Prop} {XC : String → State → State → Prop} {free : Addr → Prop} {Ts : List Cond} {own C : String} {b : Addr} {As rest : List Value} {g : JFrame}
theorem vx_runVX {hh : List (Nat × Nat × Nat × Nat)} (S : CallFix p m c cc nL s args Ts own) (hM : vx_Met l y ws rm Pc Qc XC mc ms free) (cw : vx_CVW R s args own C index y bytes maxL ret hh ws rm mc ms n) (hp : PreV s H C b Pc As)
    (hg : g.method = m) (hn : As.length = n) (hsize : g.locals.size = nL) (hstack : g.stack = As.reverse ++ .ref b :: rest) (hW : 2 * g.monitorRoom + (rest.map fun v => v.category).sum ≤ 8) (hdg : decode cc g.pc = .ok (.invokevirtual index, 3)) (hf : cells + mc ≤ R.cells ∧ slots + ms ≤ R.slots) :
    vx_Run p l e R s m args below meth c H locs cells slots mc ms g rest (Qc (Value.ref b :: As).toArray) XC free := by
  obtain ⟨⟨hrc, hrs, hfr, hlo, hws, hcw⟩, hcode, hini, hy, hlen, hl, hin, hse⟩ := cw
  have hK : vx_Back l R p e below s args y 3 8 (PreOf R mc ms Pc) (PostOf Qc mc ms free) (vx_Post XC mc ms free) := vx_backW (hh := hh) (bytes := bytes) (maxL := maxL) (ret := ret) hM hp.1 hrc hrs hfr hlo hws hcw (fun a' U hW => word_at hW (Or.inl (by first | rfl | simp [Cond.onTables, Cond.keeps, Cond.steady])) hini)
  obtain ⟨hx, hb, hml, ho, -⟩ := S
  obtain ⟨-, ⟨cellB, hcB, hoB, hclB⟩, hPc⟩ := hp
  intro T hT X
  rcases vx_callVX X hx (C := C) (hh := hh) (bytes := bytes) (maxL := maxL) (ret := ret) ho hl hin hse hcode hy hK (by rw [hT]; exact hcB) hoB hclB hg (hsize.trans hml.symm) (argsL := As) (rest := rest) (fun sig h => hn.trans (hlen sig h)) hstack hW (by rw [hb]; exact hdg)
    (fun vm₁ hW₁ => ⟨hf.1, hf.2, hPc (T.setVm vm₁) hT hW₁⟩) with ⟨v, vm₁, ⟨U', l2, c2, s2⟩, hW₁, X', ⟨g', mk, t, L, e1, e2, hq, h1, hL, h2, h3⟩, st⟩ | ⟨q, vm₁, ⟨U', l2, c2, s2⟩, hW₁, X', ⟨g', mk, t, L, E, ce, e1, e2, hq, hce, hcv, hcl, h1, hL, h2, h3⟩, st⟩
  · dsimp only [Pt.U, Pt.locs, Pt.cells, Pt.slots] at X' e1 e2 h1 h2 h3 st
    subst h1; subst h2; subst h3
    exact Or.inl ⟨v, (T.setVm vm₁).calling g' mk (Value.ref b :: As).toArray, t, U', L, hT, X', hL, e1, e2, hq, st⟩
  · dsimp only [Pt.U, Pt.locs, Pt.cells, Pt.slots] at X' e1 e2 h1 h2 h3 st hcl
    subst h1; subst h2; subst h3
    exact Or.inr ⟨q, (T.setVm vm₁).calling g' mk (Value.ref b :: As).toArray, t, U', L, E, ce, hT, X', hL, e1, e2, hq, hce, hcv, vx_cls hW₁ hcl, st⟩
theorem vx_runSX {hh : List (Nat × Nat × Nat × Nat)} (S : CallFix p m c cc nL s args Ts own) (hM : vx_Met l y ws rm Pc Qc XC mc ms free) (cw : vx_CSW R s args own index y bytes maxL ret hh ws rm mc ms n) (hp : PreS s H Pc As)
    (hg : g.method = m) (hn : As.length = n) (hsize : g.locals.size = nL) (hstack : g.stack = As.reverse ++ rest) (hW : 2 * g.monitorRoom + (rest.map fun v => v.category).sum ≤ 8) (hdg : decode cc g.pc = .ok (.invokestatic index, 3)) (hf : cells + mc ≤ R.cells ∧ slots + ms ≤ R.slots) :
    vx_Run p l e R s m args below meth c H locs cells slots mc ms g rest (Qc As.toArray) XC free := by
  obtain ⟨⟨hrc, hrs, hfr, hlo, hws, hcw⟩, hcode, hini, hy, hlen, hl, hstt⟩ := cw
  have hK : vx_Back l R p e below s args y 3 8 (PreOf R mc ms Pc) (PostOf Qc mc ms free) (vx_Post XC mc ms free) := vx_backW (hh := hh) (bytes := bytes) (maxL := maxL) (ret := ret) hM hp.1 hrc hrs hfr hlo hws hcw (fun a' U hW => word_at hW (Or.inl (by first | rfl | simp [Cond.onTables, Cond.keeps, Cond.steady])) hini)
  obtain ⟨hx, hb, hml, ho, -⟩ := S
  intro T hT X
  rcases vx_callSX X hx (hh := hh) (bytes := bytes) (maxL := maxL) (ret := ret) ho hl hstt hini hcode hy hK hg (hsize.trans hml.symm) (argsL := As) (rest := rest) (fun sig h => hn.trans (hlen sig h)) hstack hW (by rw [hb]; exact hdg)
    (fun vm₁ hW₁ => ⟨hf.1, hf.2, hp.2 (T.setVm vm₁) hT hW₁⟩) with ⟨v, vm₁, ⟨U', l2, c2, s2⟩, hW₁, X', ⟨g', mk, t, L, e1, e2, hq, h1, hL, h2, h3⟩, st⟩ | ⟨q, vm₁, ⟨U', l2, c2, s2⟩, hW₁, X', ⟨g', mk, t, L, E, ce, e1, e2, hq, hce, hcv, hcl, h1, hL, h2, h3⟩, st⟩
  · dsimp only [Pt.U, Pt.locs, Pt.cells, Pt.slots] at X' e1 e2 h1 h2 h3 st
    subst h1; subst h2; subst h3
    exact Or.inl ⟨v, (T.setVm vm₁).calling g' mk As.toArray, t, U', L, hT, X', hL, e1, e2, hq, st⟩
  · dsimp only [Pt.U, Pt.locs, Pt.cells, Pt.slots] at X' e1 e2 h1 h2 h3 st hcl
    subst h1; subst h2; subst h3
    exact Or.inr ⟨q, (T.setVm vm₁).calling g' mk As.toArray, t, U', L, E, ce, hT, X', hL, e1, e2, hq, hce, hcv, vx_cls hW₁ hcl, st⟩
end
end VXH
theorem vx_ofWH {l : Launch} {y : MethodName} {ws ws' : List Cond} {rm : Room} {Pc : Array Value → State → Prop} {Qc : Array Value → State → Outcome → State → Prop} {XC : String → State → State → Prop} {mc ms : Nat} {free : Addr → Prop} {cc : ByteArray} {maxL : Nat} {ret : Option FieldType} {hh : List (Nat × Nat × Nat × Nat)}
    (hy : plainName y.cls = true) (hw : ws = Cond.codeWith y cc maxL ret hh :: ws')
    (body : ∀ p e s m args below meth c s₁, BodyLoose p l y (headSpec ws rm) cc maxL ret e s m args below meth c s₁ → c.maxLocals = maxL → Pc args s →
      W p l e (headSpec ws rm).room s m args below meth c s.heap [] 0 0 (vx_MQ below Qc XC args s mc ms free) (entryFrame m args maxL)) : vx_Met l y ws rm Pc Qc XC mc ms free := by
  refine MetFree.of_bodyS (code := cc) (maxLocals := maxL) (ret := ret) hy ?_ ?_
  · intro args s m h hn
    obtain ⟨m9, meth, c, hn9, h1, h2, h3, h4, -, h5, h6, -⟩ := Cond.codeWith_spec (atoms_spec (ws := ws) h _ (by rw [hw]; exact List.mem_cons_self))
    cases hn.symm.trans hn9
    exact ⟨meth, c, h1, h2, h3, h4, h5, h6⟩
  · intro p e s m args below meth c s₁ B hml hP _
    have hh0 : s₁.heap = s.heap := by rw [B.state]; rfl
    obtain ⟨t, a1, o, b1, b2, b3⟩ := body p e s m args below meth c s₁ B hml hP s₁ hh0 (Stand.of_body B)
    exact ⟨t, o, a1, b1, b2, b3⟩
/-! ===== END ===== -/

/-! ===== BEGIN printed: names, fields, word lists, decode rows ===== -/
def RX0 : String := "MapSongs"
def TX0 : u_T := fun k => match k with
  | 0 => ("MapSongs", "turns", "[I", true)
  | 1 => ("MapSongs", "lengths", "[I", true)
  | 2 => ("MapSongs", "landmarks", "[I", true)
  | 3 => ("MapSongs", "marked", "[Z", true)
  | 4 => ("MapSongs", "words", "[I", true)
  | 5 => ("MapSongs", "legCount", "I", false)
  | 6 => ("MapSongs", "songStep", "I", false)
  | 7 => ("MapSongs", "headings", "[I", true)
  | 8 => ("MapSongs", "xs", "[I", true)
  | 9 => ("MapSongs", "ys", "[I", true)
  | _ => ("MapSongs", "notes", "[I", true)
def tyX0 : Nat → FieldType := fun k => match k with
  | 0 => .array .int
  | 1 => .array .int
  | 2 => .array .int
  | 3 => .array .boolean
  | 4 => .array .int
  | 5 => .int
  | 6 => .int
  | 7 => .array .int
  | 8 => .array .int
  | 9 => .array .int
  | _ => .array .int
abbrev wsX00 : List Cond := u_ws RX0 TX0 11
theorem nmX0 : ∀ a, a < 11 → ∀ b, b < 11 → a ≠ b → (TX0 a).2.1 ≠ (TX0 b).2.1 := by decide +kernel
theorem tyX0_ok : ∀ k, k < 11 → parseFieldDescriptor (TX0 k).2.2.1 = some (tyX0 k) := by decide +kernel
abbrev cX0_init : ByteArray := prog_1_method_1_code
def yX0_init : MethodName := ⟨RX0, "<init>", "()V"⟩
abbrev cX0_addLeg : ByteArray := prog_1_method_2_code
def yX0_addLeg : MethodName := ⟨RX0, "addLeg", "(III)I"⟩
abbrev cX0_strikeLeg : ByteArray := prog_1_method_3_code
def yX0_strikeLeg : MethodName := ⟨RX0, "strikeLeg", "()I"⟩
abbrev cX0_bend : ByteArray := prog_1_method_4_code
def yX0_bend : MethodName := ⟨RX0, "bend", "(II)I"⟩
abbrev cX0_setWord : ByteArray := prog_1_method_5_code
def yX0_setWord : MethodName := ⟨RX0, "setWord", "(II)I"⟩
abbrev cX0_setStep : ByteArray := prog_1_method_6_code
def yX0_setStep : MethodName := ⟨RX0, "setStep", "(I)I"⟩
abbrev cX0_legs : ByteArray := prog_1_method_7_code
def yX0_legs : MethodName := ⟨RX0, "legs", "()I"⟩
abbrev cX0_step : ByteArray := prog_1_method_8_code
def yX0_step : MethodName := ⟨RX0, "step", "()I"⟩
abbrev cX0_endX : ByteArray := prog_1_method_9_code
def yX0_endX : MethodName := ⟨RX0, "endX", "()I"⟩
abbrev cX0_endY : ByteArray := prog_1_method_10_code
def yX0_endY : MethodName := ⟨RX0, "endY", "()I"⟩
abbrev cX0_stepsHome : ByteArray := prog_1_method_11_code
def yX0_stepsHome : MethodName := ⟨RX0, "stepsHome", "()I"⟩
abbrev cX0_returns : ByteArray := prog_1_method_12_code
def yX0_returns : MethodName := ⟨RX0, "returns", "()I"⟩
abbrev cX0_turnOf : ByteArray := prog_1_method_13_code
def yX0_turnOf : MethodName := ⟨RX0, "turnOf", "(I)I"⟩
abbrev cX0_headingOf : ByteArray := prog_1_method_14_code
def yX0_headingOf : MethodName := ⟨RX0, "headingOf", "(I)I"⟩
abbrev cX0_landmarkOf : ByteArray := prog_1_method_15_code
def yX0_landmarkOf : MethodName := ⟨RX0, "landmarkOf", "(I)I"⟩
abbrev cX0_noteOf : ByteArray := prog_1_method_16_code
def yX0_noteOf : MethodName := ⟨RX0, "noteOf", "(I)I"⟩
abbrev cX0_isFolded : ByteArray := prog_1_method_17_code
def yX0_isFolded : MethodName := ⟨RX0, "isFolded", "(I)Z"⟩
abbrev cX0_wordIn : ByteArray := prog_1_method_18_code
def yX0_wordIn : MethodName := ⟨RX0, "wordIn", "(I)I"⟩
abbrev cX0_wordOf : ByteArray := prog_1_method_19_code
def yX0_wordOf : MethodName := ⟨RX0, "wordOf", "(I)I"⟩
abbrev cX0_beats : ByteArray := prog_1_method_20_code
def yX0_beats : MethodName := ⟨RX0, "beats", "()I"⟩
abbrev cX0_folded : ByteArray := prog_1_method_21_code
def yX0_folded : MethodName := ⟨RX0, "folded", "()I"⟩
abbrev cX0_range : ByteArray := prog_1_method_22_code
def yX0_range : MethodName := ⟨RX0, "range", "()I"⟩
abbrev cX0_sungWith : ByteArray := prog_1_method_23_code
def yX0_sungWith : MethodName := ⟨RX0, "sungWith", "(I)I"⟩
abbrev cX0_readings : ByteArray := prog_1_method_24_code
def yX0_readings : MethodName := ⟨RX0, "readings", "(I)I"⟩
abbrev cX0_rightReading : ByteArray := prog_1_method_25_code
def yX0_rightReading : MethodName := ⟨RX0, "rightReading", "(I)I"⟩
abbrev cX0_isAmbiguous : ByteArray := prog_1_method_26_code
def yX0_isAmbiguous : MethodName := ⟨RX0, "isAmbiguous", "(I)Z"⟩
abbrev cX0_isMended : ByteArray := prog_1_method_27_code
def yX0_isMended : MethodName := ⟨RX0, "isMended", "(I)Z"⟩
abbrev cX0_mend : ByteArray := prog_1_method_28_code
def yX0_mend : MethodName := ⟨RX0, "mend", "(I)I"⟩
abbrev cX0_mendTo : ByteArray := prog_1_method_29_code
def yX0_mendTo : MethodName := ⟨RX0, "mendTo", "(I)I"⟩
abbrev cX0_ambiguous : ByteArray := prog_1_method_30_code
def yX0_ambiguous : MethodName := ⟨RX0, "ambiguous", "()I"⟩
abbrev cX0_ways : ByteArray := prog_1_method_31_code
def yX0_ways : MethodName := ⟨RX0, "ways", "()J"⟩
abbrev cX0_firstAmbiguous : ByteArray := prog_1_method_32_code
def yX0_firstAmbiguous : MethodName := ⟨RX0, "firstAmbiguous", "()I"⟩
abbrev cX0_ambiguousWith : ByteArray := prog_1_method_33_code
def yX0_ambiguousWith : MethodName := ⟨RX0, "ambiguousWith", "(II)I"⟩
abbrev cX0_bestWord : ByteArray := prog_1_method_34_code
def yX0_bestWord : MethodName := ⟨RX0, "bestWord", "(I)I"⟩
abbrev cX0_bestStep : ByteArray := prog_1_method_35_code
def yX0_bestStep : MethodName := ⟨RX0, "bestStep", "()I"⟩
abbrev cX0_meanNote : ByteArray := prog_1_method_36_code
def yX0_meanNote : MethodName := ⟨RX0, "meanNote", "()D"⟩
abbrev cX0_digest : ByteArray := prog_1_method_37_code
def yX0_digest : MethodName := ⟨RX0, "digest", "()J"⟩
abbrev cX0_isLandmark : ByteArray := prog_1_method_38_code
def yX0_isLandmark : MethodName := ⟨RX0, "isLandmark", "(I)Z"⟩
abbrev cX0_isWord : ByteArray := prog_1_method_39_code
def yX0_isWord : MethodName := ⟨RX0, "isWord", "(I)Z"⟩
abbrev cX0_checkTurn : ByteArray := prog_1_method_40_code
def yX0_checkTurn : MethodName := ⟨RX0, "checkTurn", "(I)V"⟩
abbrev cX0_checkLandmark : ByteArray := prog_1_method_41_code
def yX0_checkLandmark : MethodName := ⟨RX0, "checkLandmark", "(I)V"⟩
abbrev cX0_checkWord : ByteArray := prog_1_method_42_code
def yX0_checkWord : MethodName := ⟨RX0, "checkWord", "(I)V"⟩
abbrev cX0_checkLeg : ByteArray := prog_1_method_43_code
def yX0_checkLeg : MethodName := ⟨RX0, "checkLeg", "(I)V"⟩
abbrev cX0_headingAhead : ByteArray := prog_1_method_44_code
def yX0_headingAhead : MethodName := ⟨RX0, "headingAhead", "(I)I"⟩
abbrev cX0_xAhead : ByteArray := prog_1_method_45_code
def yX0_xAhead : MethodName := ⟨RX0, "xAhead", "(I)I"⟩
abbrev cX0_yAhead : ByteArray := prog_1_method_46_code
def yX0_yAhead : MethodName := ⟨RX0, "yAhead", "(I)I"⟩
abbrev cX0_noteAhead : ByteArray := prog_1_method_47_code
def yX0_noteAhead : MethodName := ⟨RX0, "noteAhead", "(I)I"⟩
abbrev cX0_follow : ByteArray := prog_1_method_48_code
def yX0_follow : MethodName := ⟨RX0, "follow", "(I)V"⟩
abbrev cX0_endsWhereItWas : ByteArray := prog_1_method_49_code
def yX0_endsWhereItWas : MethodName := ⟨RX0, "endsWhereItWas", "(I)Z"⟩
abbrev cX0_leavesVoice : ByteArray := prog_1_method_50_code
def yX0_leavesVoice : MethodName := ⟨RX0, "leavesVoice", "(I)Z"⟩
abbrev cX0_noteBehind : ByteArray := prog_1_method_51_code
def yX0_noteBehind : MethodName := ⟨RX0, "noteBehind", "(II)I"⟩
abbrev cX0_dropMarks : ByteArray := prog_1_method_52_code
def yX0_dropMarks : MethodName := ⟨RX0, "dropMarks", "()V"⟩
abbrev cX0_turnsSungAs : ByteArray := prog_1_method_53_code
def yX0_turnsSungAs : MethodName := ⟨RX0, "turnsSungAs", "(IIII)I"⟩
abbrev cX0_landmarksNamed : ByteArray := prog_1_method_54_code
def yX0_landmarksNamed : MethodName := ⟨RX0, "landmarksNamed", "(II)I"⟩
abbrev cX0_mostAmbiguous : ByteArray := prog_1_method_55_code
def yX0_mostAmbiguous : MethodName := ⟨RX0, "mostAmbiguous", "()I"⟩
abbrev cX0_unmendedWith : ByteArray := prog_1_method_56_code
def yX0_unmendedWith : MethodName := ⟨RX0, "unmendedWith", "(III)I"⟩
abbrev cX0_sharesWordIf : ByteArray := prog_1_method_57_code
def yX0_sharesWordIf : MethodName := ⟨RX0, "sharesWordIf", "(III)Z"⟩
abbrev cX0_wordIf : ByteArray := prog_1_method_58_code
def yX0_wordIf : MethodName := ⟨RX0, "wordIf", "(III)I"⟩
abbrev cX0_digested : ByteArray := prog_1_method_59_code
def yX0_digested : MethodName := ⟨RX0, "digested", "(JJ)J"⟩
abbrev cX0_digestOfLeg : ByteArray := prog_1_method_60_code
def yX0_digestOfLeg : MethodName := ⟨RX0, "digestOfLeg", "(JI)J"⟩
def RX1 : String := "MapSongsModel"
def TX1 : u_T := fun k => match k with
  | 0 => ("MapSongsModel", "thrown", "I", false)
  | 1 => ("MapSongsModel", "legs", "I", false)
  | 2 => ("MapSongsModel", "step", "I", false)
  | 3 => ("MapSongsModel", "turn", "[I", true)
  | 4 => ("MapSongsModel", "length", "[I", true)
  | 5 => ("MapSongsModel", "mark", "[I", true)
  | 6 => ("MapSongsModel", "word", "[I", true)
  | 7 => ("MapSongsModel", "mended", "I", false)
  | 8 => ("MapSongsModel", "note", "[I", true)
  | 9 => ("MapSongsModel", "x", "[I", true)
  | _ => ("MapSongsModel", "y", "[I", true)
def tyX1 : Nat → FieldType := fun k => match k with
  | 0 => .int
  | 1 => .int
  | 2 => .int
  | 3 => .array .int
  | 4 => .array .int
  | 5 => .array .int
  | 6 => .array .int
  | 7 => .int
  | 8 => .array .int
  | 9 => .array .int
  | _ => .array .int
abbrev wsX10 : List Cond := u_ws RX1 TX1 11
theorem nmX1 : ∀ a, a < 11 → ∀ b, b < 11 → a ≠ b → (TX1 a).2.1 ≠ (TX1 b).2.1 := by decide +kernel
theorem tyX1_ok : ∀ k, k < 11 → parseFieldDescriptor (TX1 k).2.2.1 = some (tyX1 k) := by decide +kernel
abbrev cX1_init : ByteArray := prog_3_method_1_code
def yX1_init : MethodName := ⟨RX1, "<init>", "()V"⟩
abbrev cX1_thrown : ByteArray := prog_3_method_2_code
def yX1_thrown : MethodName := ⟨RX1, "thrown", "()I"⟩
abbrev cX1_no : ByteArray := prog_3_method_3_code
def yX1_no : MethodName := ⟨RX1, "no", "(I)I"⟩
abbrev cX1_isNot : ByteArray := prog_3_method_4_code
def yX1_isNot : MethodName := ⟨RX1, "isNot", "(I)Z"⟩
abbrev cX1_ok : ByteArray := prog_3_method_5_code
def yX1_ok : MethodName := ⟨RX1, "ok", "(I)I"⟩
abbrev cX1_isIn : ByteArray := prog_3_method_6_code
def yX1_isIn : MethodName := ⟨RX1, "isIn", "(III)Z"⟩
abbrev cX1_isLeg : ByteArray := prog_3_method_7_code
def yX1_isLeg : MethodName := ⟨RX1, "isLeg", "(I)Z"⟩
abbrev cX1_isKind : ByteArray := prog_3_method_8_code
def yX1_isKind : MethodName := ⟨RX1, "isKind", "(I)Z"⟩
abbrev cX1_heading : ByteArray := prog_3_method_9_code
def yX1_heading : MethodName := ⟨RX1, "heading", "(I)I"⟩
abbrev cX1_walk : ByteArray := prog_3_method_10_code
def yX1_walk : MethodName := ⟨RX1, "walk", "()V"⟩
abbrev cX1_home : ByteArray := prog_3_method_11_code
def yX1_home : MethodName := ⟨RX1, "home", "()I"⟩
abbrev cX1_back : ByteArray := prog_3_method_12_code
def yX1_back : MethodName := ⟨RX1, "back", "()I"⟩
abbrev cX1_endOf : ByteArray := prog_3_method_13_code
def yX1_endOf : MethodName := ⟨RX1, "endOf", "([I)I"⟩
abbrev cX1_folds : ByteArray := prog_3_method_14_code
def yX1_folds : MethodName := ⟨RX1, "folds", "(II)Z"⟩
abbrev cX1_sing : ByteArray := prog_3_method_15_code
def yX1_sing : MethodName := ⟨RX1, "sing", "(I)V"⟩
abbrev cX1_isFoldedNow : ByteArray := prog_3_method_16_code
def yX1_isFoldedNow : MethodName := ⟨RX1, "isFoldedNow", "(I)Z"⟩
abbrev cX1_foldedNow : ByteArray := prog_3_method_17_code
def yX1_foldedNow : MethodName := ⟨RX1, "foldedNow", "()I"⟩
abbrev cX1_isTwofold : ByteArray := prog_3_method_18_code
def yX1_isTwofold : MethodName := ⟨RX1, "isTwofold", "(II)Z"⟩
abbrev cX1_alike : ByteArray := prog_3_method_19_code
def yX1_alike : MethodName := ⟨RX1, "alike", "(I)I"⟩
abbrev cX1_many : ByteArray := prog_3_method_20_code
def yX1_many : MethodName := ⟨RX1, "many", "(II)I"⟩
abbrev cX1_manyNow : ByteArray := prog_3_method_21_code
def yX1_manyNow : MethodName := ⟨RX1, "manyNow", "(I)I"⟩
abbrev cX1_right : ByteArray := prog_3_method_22_code
def yX1_right : MethodName := ⟨RX1, "right", "(I)I"⟩
abbrev cX1_isMendedNow : ByteArray := prog_3_method_23_code
def yX1_isMendedNow : MethodName := ⟨RX1, "isMendedNow", "(I)Z"⟩
abbrev cX1_isOpen : ByteArray := prog_3_method_24_code
def yX1_isOpen : MethodName := ⟨RX1, "isOpen", "(I)Z"⟩
abbrev cX1_open : ByteArray := prog_3_method_25_code
def yX1_open : MethodName := ⟨RX1, "open", "()I"⟩
abbrev cX1_all : ByteArray := prog_3_method_26_code
def yX1_all : MethodName := ⟨RX1, "all", "()J"⟩
abbrev cX1_openBy : ByteArray := prog_3_method_27_code
def yX1_openBy : MethodName := ⟨RX1, "openBy", "(I)I"⟩
abbrev cX1_openWith : ByteArray := prog_3_method_28_code
def yX1_openWith : MethodName := ⟨RX1, "openWith", "(II)I"⟩
abbrev cX1_wordFor : ByteArray := prog_3_method_29_code
def yX1_wordFor : MethodName := ⟨RX1, "wordFor", "(I)I"⟩
abbrev cX1_stepFor : ByteArray := prog_3_method_30_code
def yX1_stepFor : MethodName := ⟨RX1, "stepFor", "()I"⟩
abbrev cX1_addLeg : ByteArray := prog_3_method_31_code
def yX1_addLeg : MethodName := ⟨RX1, "addLeg", "(III)I"⟩
abbrev cX1_strikeLeg : ByteArray := prog_3_method_32_code
def yX1_strikeLeg : MethodName := ⟨RX1, "strikeLeg", "()I"⟩
abbrev cX1_bend : ByteArray := prog_3_method_33_code
def yX1_bend : MethodName := ⟨RX1, "bend", "(II)I"⟩
abbrev cX1_setWord : ByteArray := prog_3_method_34_code
def yX1_setWord : MethodName := ⟨RX1, "setWord", "(II)I"⟩
abbrev cX1_setStep : ByteArray := prog_3_method_35_code
def yX1_setStep : MethodName := ⟨RX1, "setStep", "(I)I"⟩
abbrev cX1_legs : ByteArray := prog_3_method_36_code
def yX1_legs : MethodName := ⟨RX1, "legs", "()I"⟩
abbrev cX1_step : ByteArray := prog_3_method_37_code
def yX1_step : MethodName := ⟨RX1, "step", "()I"⟩
abbrev cX1_endX : ByteArray := prog_3_method_38_code
def yX1_endX : MethodName := ⟨RX1, "endX", "()I"⟩
abbrev cX1_endY : ByteArray := prog_3_method_39_code
def yX1_endY : MethodName := ⟨RX1, "endY", "()I"⟩
abbrev cX1_stepsHome : ByteArray := prog_3_method_40_code
def yX1_stepsHome : MethodName := ⟨RX1, "stepsHome", "()I"⟩
abbrev cX1_returns : ByteArray := prog_3_method_41_code
def yX1_returns : MethodName := ⟨RX1, "returns", "()I"⟩
abbrev cX1_turnOf : ByteArray := prog_3_method_42_code
def yX1_turnOf : MethodName := ⟨RX1, "turnOf", "(I)I"⟩
abbrev cX1_headingOf : ByteArray := prog_3_method_43_code
def yX1_headingOf : MethodName := ⟨RX1, "headingOf", "(I)I"⟩
abbrev cX1_landmarkOf : ByteArray := prog_3_method_44_code
def yX1_landmarkOf : MethodName := ⟨RX1, "landmarkOf", "(I)I"⟩
abbrev cX1_noteNow : ByteArray := prog_3_method_45_code
def yX1_noteNow : MethodName := ⟨RX1, "noteNow", "(I)I"⟩
abbrev cX1_noteOf : ByteArray := prog_3_method_46_code
def yX1_noteOf : MethodName := ⟨RX1, "noteOf", "(I)I"⟩
abbrev cX1_isFolded : ByteArray := prog_3_method_47_code
def yX1_isFolded : MethodName := ⟨RX1, "isFolded", "(I)Z"⟩
abbrev cX1_wordIn : ByteArray := prog_3_method_48_code
def yX1_wordIn : MethodName := ⟨RX1, "wordIn", "(I)I"⟩
abbrev cX1_wordOf : ByteArray := prog_3_method_49_code
def yX1_wordOf : MethodName := ⟨RX1, "wordOf", "(I)I"⟩
abbrev cX1_allBeats : ByteArray := prog_3_method_50_code
def yX1_allBeats : MethodName := ⟨RX1, "allBeats", "()I"⟩
abbrev cX1_beats : ByteArray := prog_3_method_51_code
def yX1_beats : MethodName := ⟨RX1, "beats", "()I"⟩
abbrev cX1_folded : ByteArray := prog_3_method_52_code
def yX1_folded : MethodName := ⟨RX1, "folded", "()I"⟩
abbrev cX1_wide : ByteArray := prog_3_method_53_code
def yX1_wide : MethodName := ⟨RX1, "wide", "()I"⟩
abbrev cX1_range : ByteArray := prog_3_method_54_code
def yX1_range : MethodName := ⟨RX1, "range", "()I"⟩
abbrev cX1_sungWith : ByteArray := prog_3_method_55_code
def yX1_sungWith : MethodName := ⟨RX1, "sungWith", "(I)I"⟩
abbrev cX1_readings : ByteArray := prog_3_method_56_code
def yX1_readings : MethodName := ⟨RX1, "readings", "(I)I"⟩
abbrev cX1_rightReading : ByteArray := prog_3_method_57_code
def yX1_rightReading : MethodName := ⟨RX1, "rightReading", "(I)I"⟩
abbrev cX1_isAmbiguous : ByteArray := prog_3_method_58_code
def yX1_isAmbiguous : MethodName := ⟨RX1, "isAmbiguous", "(I)Z"⟩
abbrev cX1_isMended : ByteArray := prog_3_method_59_code
def yX1_isMended : MethodName := ⟨RX1, "isMended", "(I)Z"⟩
abbrev cX1_mend : ByteArray := prog_3_method_60_code
def yX1_mend : MethodName := ⟨RX1, "mend", "(I)I"⟩
abbrev cX1_mendTo : ByteArray := prog_3_method_61_code
def yX1_mendTo : MethodName := ⟨RX1, "mendTo", "(I)I"⟩
abbrev cX1_ambiguous : ByteArray := prog_3_method_62_code
def yX1_ambiguous : MethodName := ⟨RX1, "ambiguous", "()I"⟩
abbrev cX1_ways : ByteArray := prog_3_method_63_code
def yX1_ways : MethodName := ⟨RX1, "ways", "()J"⟩
abbrev cX1_firstOpen : ByteArray := prog_3_method_64_code
def yX1_firstOpen : MethodName := ⟨RX1, "firstOpen", "()I"⟩
abbrev cX1_firstAmbiguous : ByteArray := prog_3_method_65_code
def yX1_firstAmbiguous : MethodName := ⟨RX1, "firstAmbiguous", "()I"⟩
abbrev cX1_ambiguousWith : ByteArray := prog_3_method_66_code
def yX1_ambiguousWith : MethodName := ⟨RX1, "ambiguousWith", "(II)I"⟩
abbrev cX1_bestWord : ByteArray := prog_3_method_67_code
def yX1_bestWord : MethodName := ⟨RX1, "bestWord", "(I)I"⟩
abbrev cX1_bestStep : ByteArray := prog_3_method_68_code
def yX1_bestStep : MethodName := ⟨RX1, "bestStep", "()I"⟩
abbrev cX1_meanNote : ByteArray := prog_3_method_69_code
def yX1_meanNote : MethodName := ⟨RX1, "meanNote", "()D"⟩
abbrev cX1_digest : ByteArray := prog_3_method_70_code
def yX1_digest : MethodName := ⟨RX1, "digest", "()J"⟩
def RJ9 : String := "java/lang/Math"
def TJ9 : u_T := fun k => match k with
  | _ => ("", "", "", false)
def tyJ9 : Nat → FieldType := fun k => match k with
  | _ => .int
abbrev wsJ90 : List Cond := u_ws RJ9 TJ9 0
theorem nmJ9 : ∀ a, a < 0 → ∀ b, b < 0 → a ≠ b → (TJ9 a).2.1 ≠ (TJ9 b).2.1 := by decide +kernel
theorem tyJ9_ok : ∀ k, k < 0 → parseFieldDescriptor (TJ9 k).2.2.1 = some (tyJ9 k) := by decide +kernel
abbrev cJ9_floorMod_7cf53 : ByteArray := prog_8_method_50_code
def yJ9_floorMod_7cf53 : MethodName := ⟨RJ9, "floorMod", "(II)I"⟩
abbrev cJ9_abs_0f7a4 : ByteArray := prog_8_method_59_code
def yJ9_abs_0f7a4 : MethodName := ⟨RJ9, "abs", "(I)I"⟩
abbrev cJ9_max_7cf53 : ByteArray := prog_8_method_65_code
def yJ9_max_7cf53 : MethodName := ⟨RJ9, "max", "(II)I"⟩
abbrev cJ9_min_7cf53 : ByteArray := prog_8_method_69_code
def yJ9_min_7cf53 : MethodName := ⟨RJ9, "min", "(II)I"⟩
abbrev cJ9_min_f86c9 : ByteArray := prog_8_method_70_code
def yJ9_min_f86c9 : MethodName := ⟨RJ9, "min", "(JJ)J"⟩
def RJ0 : String := "java/lang/String"
def TJ0 : u_T := fun k => match k with
  | _ => ("", "", "", false)
def tyJ0 : Nat → FieldType := fun k => match k with
  | _ => .int
abbrev wsJ00 : List Cond := u_ws RJ0 TJ0 0
theorem nmJ0 : ∀ a, a < 0 → ∀ b, b < 0 → a ≠ b → (TJ0 a).2.1 ≠ (TJ0 b).2.1 := by decide +kernel
theorem tyJ0_ok : ∀ k, k < 0 → parseFieldDescriptor (TJ0 k).2.2.1 = some (tyJ0 k) := by decide +kernel
def RL : String := "MapSongsLaw"
abbrev cL_addLeg : ByteArray := method_3_code
def yL_addLeg : MethodName := ⟨RL, "addLeg", "(LMapSongs;III[J)I"⟩
abbrev cL_strikeLeg : ByteArray := method_4_code
def yL_strikeLeg : MethodName := ⟨RL, "strikeLeg", "(LMapSongs;[J)I"⟩
abbrev cL_bend : ByteArray := method_5_code
def yL_bend : MethodName := ⟨RL, "bend", "(LMapSongs;II[J)I"⟩
abbrev cL_setWord : ByteArray := method_6_code
def yL_setWord : MethodName := ⟨RL, "setWord", "(LMapSongs;II[J)I"⟩
abbrev cL_setStep : ByteArray := method_7_code
def yL_setStep : MethodName := ⟨RL, "setStep", "(LMapSongs;I[J)I"⟩
abbrev cL_turnOf : ByteArray := method_8_code
def yL_turnOf : MethodName := ⟨RL, "turnOf", "(LMapSongs;I[J)I"⟩
abbrev cL_headingOf : ByteArray := method_9_code
def yL_headingOf : MethodName := ⟨RL, "headingOf", "(LMapSongs;I[J)I"⟩
abbrev cL_landmarkOf : ByteArray := method_10_code
def yL_landmarkOf : MethodName := ⟨RL, "landmarkOf", "(LMapSongs;I[J)I"⟩
abbrev cL_noteOf : ByteArray := method_11_code
def yL_noteOf : MethodName := ⟨RL, "noteOf", "(LMapSongs;I[J)I"⟩
abbrev cL_isFolded : ByteArray := method_12_code
def yL_isFolded : MethodName := ⟨RL, "isFolded", "(LMapSongs;I[J)I"⟩
abbrev cL_wordIn : ByteArray := method_13_code
def yL_wordIn : MethodName := ⟨RL, "wordIn", "(LMapSongs;I[J)I"⟩
abbrev cL_wordOf : ByteArray := method_14_code
def yL_wordOf : MethodName := ⟨RL, "wordOf", "(LMapSongs;I[J)I"⟩
abbrev cL_sungWith : ByteArray := method_15_code
def yL_sungWith : MethodName := ⟨RL, "sungWith", "(LMapSongs;I[J)I"⟩
abbrev cL_readings : ByteArray := method_16_code
def yL_readings : MethodName := ⟨RL, "readings", "(LMapSongs;I[J)I"⟩
abbrev cL_rightReading : ByteArray := method_17_code
def yL_rightReading : MethodName := ⟨RL, "rightReading", "(LMapSongs;I[J)I"⟩
abbrev cL_isAmbiguous : ByteArray := method_18_code
def yL_isAmbiguous : MethodName := ⟨RL, "isAmbiguous", "(LMapSongs;I[J)I"⟩
abbrev cL_isMended : ByteArray := method_19_code
def yL_isMended : MethodName := ⟨RL, "isMended", "(LMapSongs;I[J)I"⟩
abbrev cL_mend : ByteArray := method_20_code
def yL_mend : MethodName := ⟨RL, "mend", "(LMapSongs;I[J)I"⟩
abbrev cL_mendTo : ByteArray := method_21_code
def yL_mendTo : MethodName := ⟨RL, "mendTo", "(LMapSongs;I[J)I"⟩
abbrev cL_ambiguousWith : ByteArray := method_22_code
def yL_ambiguousWith : MethodName := ⟨RL, "ambiguousWith", "(LMapSongs;II[J)I"⟩
abbrev cL_bestWord : ByteArray := method_23_code
def yL_bestWord : MethodName := ⟨RL, "bestWord", "(LMapSongs;I[J)I"⟩
abbrev cL_law : ByteArray := code
def yL_law : MethodName := ⟨RL, "law", "([I)Z"⟩
abbrev vwCl : List vw_C := [(RX0, TX0, 11), (RX1, TX1, 11)]
/-! ===== END printed: names ===== -/
end
section
theorem dX0_init_0 : decode cX0_init 0 = .ok (.aload_n 0, 1) := by decide +kernel
theorem dX0_init_1 : decode cX0_init 1 = .ok (.invokespecial 1, 3) := by decide +kernel
theorem dX0_init_4 : decode cX0_init 4 = .ok (.aload_n 0, 1) := by decide +kernel
theorem dX0_init_5 : decode cX0_init 5 = .ok (.bipush 16, 2) := by decide +kernel
theorem dX0_init_7 : decode cX0_init 7 = .ok (.newarray .int, 2) := by decide +kernel
theorem dX0_init_9 : decode cX0_init 9 = .ok (.putfield 9, 3) := by decide +kernel
theorem dX0_init_12 : decode cX0_init 12 = .ok (.aload_n 0, 1) := by decide +kernel
theorem dX0_init_13 : decode cX0_init 13 = .ok (.bipush 16, 2) := by decide +kernel
theorem dX0_init_15 : decode cX0_init 15 = .ok (.newarray .int, 2) := by decide +kernel
theorem dX0_init_17 : decode cX0_init 17 = .ok (.putfield 13, 3) := by decide +kernel
theorem dX0_init_20 : decode cX0_init 20 = .ok (.aload_n 0, 1) := by decide +kernel
theorem dX0_init_21 : decode cX0_init 21 = .ok (.bipush 16, 2) := by decide +kernel
theorem dX0_init_23 : decode cX0_init 23 = .ok (.newarray .int, 2) := by decide +kernel
theorem dX0_init_25 : decode cX0_init 25 = .ok (.putfield 16, 3) := by decide +kernel
theorem dX0_init_28 : decode cX0_init 28 = .ok (.aload_n 0, 1) := by decide +kernel
theorem dX0_init_29 : decode cX0_init 29 = .ok (.bipush 16, 2) := by decide +kernel
theorem dX0_init_31 : decode cX0_init 31 = .ok (.newarray .boolean, 2) := by decide +kernel
theorem dX0_init_33 : decode cX0_init 33 = .ok (.putfield 19, 3) := by decide +kernel
theorem dX0_init_36 : decode cX0_init 36 = .ok (.aload_n 0, 1) := by decide +kernel
theorem dX0_init_37 : decode cX0_init 37 = .ok (.bipush 10, 2) := by decide +kernel
theorem dX0_init_39 : decode cX0_init 39 = .ok (.newarray .int, 2) := by decide +kernel
theorem dX0_init_41 : decode cX0_init 41 = .ok (.putfield 23, 3) := by decide +kernel
theorem dX0_init_44 : decode cX0_init 44 = .ok (.aload_n 0, 1) := by decide +kernel
theorem dX0_init_45 : decode cX0_init 45 = .ok (.bipush 16, 2) := by decide +kernel
theorem dX0_init_47 : decode cX0_init 47 = .ok (.newarray .int, 2) := by decide +kernel
theorem dX0_init_49 : decode cX0_init 49 = .ok (.putfield 26, 3) := by decide +kernel
theorem dX0_init_52 : decode cX0_init 52 = .ok (.aload_n 0, 1) := by decide +kernel
theorem dX0_init_53 : decode cX0_init 53 = .ok (.bipush 16, 2) := by decide +kernel
theorem dX0_init_55 : decode cX0_init 55 = .ok (.newarray .int, 2) := by decide +kernel
theorem dX0_init_57 : decode cX0_init 57 = .ok (.putfield 29, 3) := by decide +kernel
theorem dX0_init_60 : decode cX0_init 60 = .ok (.aload_n 0, 1) := by decide +kernel
theorem dX0_init_61 : decode cX0_init 61 = .ok (.bipush 16, 2) := by decide +kernel
theorem dX0_init_63 : decode cX0_init 63 = .ok (.newarray .int, 2) := by decide +kernel
theorem dX0_init_65 : decode cX0_init 65 = .ok (.putfield 32, 3) := by decide +kernel
theorem dX0_init_68 : decode cX0_init 68 = .ok (.aload_n 0, 1) := by decide +kernel
theorem dX0_init_69 : decode cX0_init 69 = .ok (.bipush 16, 2) := by decide +kernel
theorem dX0_init_71 : decode cX0_init 71 = .ok (.newarray .int, 2) := by decide +kernel
theorem dX0_init_73 : decode cX0_init 73 = .ok (.putfield 35, 3) := by decide +kernel
theorem dX0_init_76 : decode cX0_init 76 = .ok (.aload_n 0, 1) := by decide +kernel
theorem dX0_init_77 : decode cX0_init 77 = .ok (.iconst 2, 1) := by decide +kernel
theorem dX0_init_78 : decode cX0_init 78 = .ok (.putfield 38, 3) := by decide +kernel
theorem dX0_init_81 : decode cX0_init 81 = .ok (.iconst 0, 1) := by decide +kernel
theorem dX0_init_82 : decode cX0_init 82 = .ok (.istore_n 1, 1) := by decide +kernel
theorem dX0_init_83 : decode cX0_init 83 = .ok (.iload_n 1, 1) := by decide +kernel
theorem dX0_init_84 : decode cX0_init 84 = .ok (.bipush 10, 2) := by decide +kernel
theorem dX0_init_86 : decode cX0_init 86 = .ok (.if_icmp .ge 16, 3) := by decide +kernel
theorem dX0_init_89 : decode cX0_init 89 = .ok (.aload_n 0, 1) := by decide +kernel
theorem dX0_init_90 : decode cX0_init 90 = .ok (.getfield 23, 3) := by decide +kernel
theorem dX0_init_93 : decode cX0_init 93 = .ok (.iload_n 1, 1) := by decide +kernel
theorem dX0_init_94 : decode cX0_init 94 = .ok (.iload_n 1, 1) := by decide +kernel
theorem dX0_init_95 : decode cX0_init 95 = .ok (.iastore, 1) := by decide +kernel
theorem dX0_init_96 : decode cX0_init 96 = .ok (.iinc 1 1, 3) := by decide +kernel
theorem dX0_init_99 : decode cX0_init 99 = .ok (.goto (-16), 3) := by decide +kernel
theorem dX0_init_102 : decode cX0_init 102 = .ok (.return_, 1) := by decide +kernel
theorem dX0_addLeg_0 : decode cX0_addLeg 0 = .ok (.iload_n 1, 1) := by decide +kernel
theorem dX0_addLeg_1 : decode cX0_addLeg 1 = .ok (.invokestatic 42, 3) := by decide +kernel
theorem dX0_addLeg_4 : decode cX0_addLeg 4 = .ok (.iload_n 2, 1) := by decide +kernel
theorem dX0_addLeg_5 : decode cX0_addLeg 5 = .ok (.iconst 1, 1) := by decide +kernel
theorem dX0_addLeg_6 : decode cX0_addLeg 6 = .ok (.if_icmp .lt 9, 3) := by decide +kernel
theorem dX0_addLeg_9 : decode cX0_addLeg 9 = .ok (.iload_n 2, 1) := by decide +kernel
theorem dX0_addLeg_10 : decode cX0_addLeg 10 = .ok (.bipush 9, 2) := by decide +kernel
theorem dX0_addLeg_12 : decode cX0_addLeg 12 = .ok (.if_icmp .le 13, 3) := by decide +kernel
theorem dX0_addLeg_15 : decode cX0_addLeg 15 = .ok (.new 46, 3) := by decide +kernel
theorem dX0_addLeg_18 : decode cX0_addLeg 18 = .ok (.dup, 1) := by decide +kernel
theorem dX0_addLeg_19 : decode cX0_addLeg 19 = .ok (.ldc 48, 2) := by decide +kernel
theorem dX0_addLeg_21 : decode cX0_addLeg 21 = .ok (.invokespecial 50, 3) := by decide +kernel
theorem dX0_addLeg_24 : decode cX0_addLeg 24 = .ok (.athrow, 1) := by decide +kernel
theorem dX0_addLeg_25 : decode cX0_addLeg 25 = .ok (.iload_n 3, 1) := by decide +kernel
theorem dX0_addLeg_26 : decode cX0_addLeg 26 = .ok (.invokestatic 53, 3) := by decide +kernel
theorem dX0_addLeg_29 : decode cX0_addLeg 29 = .ok (.ifCond .ne 13, 3) := by decide +kernel
theorem dX0_addLeg_32 : decode cX0_addLeg 32 = .ok (.new 46, 3) := by decide +kernel
theorem dX0_addLeg_35 : decode cX0_addLeg 35 = .ok (.dup, 1) := by decide +kernel
theorem dX0_addLeg_36 : decode cX0_addLeg 36 = .ok (.ldc 57, 2) := by decide +kernel
theorem dX0_addLeg_38 : decode cX0_addLeg 38 = .ok (.invokespecial 50, 3) := by decide +kernel
theorem dX0_addLeg_41 : decode cX0_addLeg 41 = .ok (.athrow, 1) := by decide +kernel
theorem dX0_addLeg_42 : decode cX0_addLeg 42 = .ok (.aload_n 0, 1) := by decide +kernel
theorem dX0_addLeg_43 : decode cX0_addLeg 43 = .ok (.getfield 59, 3) := by decide +kernel
theorem dX0_addLeg_46 : decode cX0_addLeg 46 = .ok (.bipush 16, 2) := by decide +kernel
theorem dX0_addLeg_48 : decode cX0_addLeg 48 = .ok (.if_icmp .lt 13, 3) := by decide +kernel
theorem dX0_addLeg_51 : decode cX0_addLeg 51 = .ok (.new 62, 3) := by decide +kernel
theorem dX0_addLeg_54 : decode cX0_addLeg 54 = .ok (.dup, 1) := by decide +kernel
theorem dX0_addLeg_55 : decode cX0_addLeg 55 = .ok (.ldc 64, 2) := by decide +kernel
theorem dX0_addLeg_57 : decode cX0_addLeg 57 = .ok (.invokespecial 66, 3) := by decide +kernel
theorem dX0_addLeg_60 : decode cX0_addLeg 60 = .ok (.athrow, 1) := by decide +kernel
theorem dX0_addLeg_61 : decode cX0_addLeg 61 = .ok (.aload_n 0, 1) := by decide +kernel
theorem dX0_addLeg_62 : decode cX0_addLeg 62 = .ok (.getfield 59, 3) := by decide +kernel
theorem dX0_addLeg_65 : decode cX0_addLeg 65 = .ok (.istore 4, 2) := by decide +kernel
theorem dX0_addLeg_67 : decode cX0_addLeg 67 = .ok (.aload_n 0, 1) := by decide +kernel
theorem dX0_addLeg_68 : decode cX0_addLeg 68 = .ok (.getfield 9, 3) := by decide +kernel
theorem dX0_addLeg_71 : decode cX0_addLeg 71 = .ok (.iload 4, 2) := by decide +kernel
theorem dX0_addLeg_73 : decode cX0_addLeg 73 = .ok (.iload_n 1, 1) := by decide +kernel
theorem dX0_addLeg_74 : decode cX0_addLeg 74 = .ok (.iastore, 1) := by decide +kernel
theorem dX0_addLeg_75 : decode cX0_addLeg 75 = .ok (.aload_n 0, 1) := by decide +kernel
theorem dX0_addLeg_76 : decode cX0_addLeg 76 = .ok (.getfield 13, 3) := by decide +kernel
theorem dX0_addLeg_79 : decode cX0_addLeg 79 = .ok (.iload 4, 2) := by decide +kernel
theorem dX0_addLeg_81 : decode cX0_addLeg 81 = .ok (.iload_n 2, 1) := by decide +kernel
theorem dX0_addLeg_82 : decode cX0_addLeg 82 = .ok (.iastore, 1) := by decide +kernel
theorem dX0_addLeg_83 : decode cX0_addLeg 83 = .ok (.aload_n 0, 1) := by decide +kernel
theorem dX0_addLeg_84 : decode cX0_addLeg 84 = .ok (.getfield 16, 3) := by decide +kernel
theorem dX0_addLeg_87 : decode cX0_addLeg 87 = .ok (.iload 4, 2) := by decide +kernel
theorem dX0_addLeg_89 : decode cX0_addLeg 89 = .ok (.iload_n 3, 1) := by decide +kernel
theorem dX0_addLeg_90 : decode cX0_addLeg 90 = .ok (.iastore, 1) := by decide +kernel
theorem dX0_addLeg_91 : decode cX0_addLeg 91 = .ok (.aload_n 0, 1) := by decide +kernel
theorem dX0_addLeg_92 : decode cX0_addLeg 92 = .ok (.getfield 19, 3) := by decide +kernel
theorem dX0_addLeg_95 : decode cX0_addLeg 95 = .ok (.iload 4, 2) := by decide +kernel
theorem dX0_addLeg_97 : decode cX0_addLeg 97 = .ok (.iconst 0, 1) := by decide +kernel
theorem dX0_addLeg_98 : decode cX0_addLeg 98 = .ok (.bastore, 1) := by decide +kernel
theorem dX0_addLeg_99 : decode cX0_addLeg 99 = .ok (.aload_n 0, 1) := by decide +kernel
theorem dX0_addLeg_100 : decode cX0_addLeg 100 = .ok (.iload 4, 2) := by decide +kernel
theorem dX0_addLeg_102 : decode cX0_addLeg 102 = .ok (.iconst 1, 1) := by decide +kernel
theorem dX0_addLeg_103 : decode cX0_addLeg 103 = .ok (.iadd, 1) := by decide +kernel
theorem dX0_addLeg_104 : decode cX0_addLeg 104 = .ok (.putfield 59, 3) := by decide +kernel
theorem dX0_addLeg_107 : decode cX0_addLeg 107 = .ok (.aload_n 0, 1) := by decide +kernel
theorem dX0_addLeg_108 : decode cX0_addLeg 108 = .ok (.iload 4, 2) := by decide +kernel
theorem dX0_addLeg_110 : decode cX0_addLeg 110 = .ok (.invokevirtual 67, 3) := by decide +kernel
theorem dX0_addLeg_113 : decode cX0_addLeg 113 = .ok (.iload 4, 2) := by decide +kernel
theorem dX0_addLeg_115 : decode cX0_addLeg 115 = .ok (.ireturn, 1) := by decide +kernel
theorem dX0_strikeLeg_0 : decode cX0_strikeLeg 0 = .ok (.aload_n 0, 1) := by decide +kernel
theorem dX0_strikeLeg_1 : decode cX0_strikeLeg 1 = .ok (.getfield 59, 3) := by decide +kernel
theorem dX0_strikeLeg_4 : decode cX0_strikeLeg 4 = .ok (.ifCond .gt 13, 3) := by decide +kernel
theorem dX0_strikeLeg_7 : decode cX0_strikeLeg 7 = .ok (.new 62, 3) := by decide +kernel
theorem dX0_strikeLeg_10 : decode cX0_strikeLeg 10 = .ok (.dup, 1) := by decide +kernel
theorem dX0_strikeLeg_11 : decode cX0_strikeLeg 11 = .ok (.ldc 70, 2) := by decide +kernel
theorem dX0_strikeLeg_13 : decode cX0_strikeLeg 13 = .ok (.invokespecial 66, 3) := by decide +kernel
theorem dX0_strikeLeg_16 : decode cX0_strikeLeg 16 = .ok (.athrow, 1) := by decide +kernel
theorem dX0_strikeLeg_17 : decode cX0_strikeLeg 17 = .ok (.aload_n 0, 1) := by decide +kernel
theorem dX0_strikeLeg_18 : decode cX0_strikeLeg 18 = .ok (.aload_n 0, 1) := by decide +kernel
theorem dX0_strikeLeg_19 : decode cX0_strikeLeg 19 = .ok (.getfield 59, 3) := by decide +kernel
theorem dX0_strikeLeg_22 : decode cX0_strikeLeg 22 = .ok (.iconst 1, 1) := by decide +kernel
theorem dX0_strikeLeg_23 : decode cX0_strikeLeg 23 = .ok (.isub, 1) := by decide +kernel
theorem dX0_strikeLeg_24 : decode cX0_strikeLeg 24 = .ok (.putfield 59, 3) := by decide +kernel
theorem dX0_strikeLeg_27 : decode cX0_strikeLeg 27 = .ok (.aload_n 0, 1) := by decide +kernel
theorem dX0_strikeLeg_28 : decode cX0_strikeLeg 28 = .ok (.getfield 16, 3) := by decide +kernel
theorem dX0_strikeLeg_31 : decode cX0_strikeLeg 31 = .ok (.aload_n 0, 1) := by decide +kernel
theorem dX0_strikeLeg_32 : decode cX0_strikeLeg 32 = .ok (.getfield 59, 3) := by decide +kernel
theorem dX0_strikeLeg_35 : decode cX0_strikeLeg 35 = .ok (.iaload, 1) := by decide +kernel
theorem dX0_strikeLeg_36 : decode cX0_strikeLeg 36 = .ok (.ireturn, 1) := by decide +kernel
theorem dX0_bend_0 : decode cX0_bend 0 = .ok (.aload_n 0, 1) := by decide +kernel
theorem dX0_bend_1 : decode cX0_bend 1 = .ok (.iload_n 1, 1) := by decide +kernel
theorem dX0_bend_2 : decode cX0_bend 2 = .ok (.invokevirtual 72, 3) := by decide +kernel
theorem dX0_bend_5 : decode cX0_bend 5 = .ok (.iload_n 2, 1) := by decide +kernel
theorem dX0_bend_6 : decode cX0_bend 6 = .ok (.invokestatic 42, 3) := by decide +kernel
theorem dX0_bend_9 : decode cX0_bend 9 = .ok (.aload_n 0, 1) := by decide +kernel
theorem dX0_bend_10 : decode cX0_bend 10 = .ok (.getfield 9, 3) := by decide +kernel
theorem dX0_bend_13 : decode cX0_bend 13 = .ok (.iload_n 1, 1) := by decide +kernel
theorem dX0_bend_14 : decode cX0_bend 14 = .ok (.iaload, 1) := by decide +kernel
theorem dX0_bend_15 : decode cX0_bend 15 = .ok (.istore_n 3, 1) := by decide +kernel
theorem dX0_bend_16 : decode cX0_bend 16 = .ok (.aload_n 0, 1) := by decide +kernel
theorem dX0_bend_17 : decode cX0_bend 17 = .ok (.getfield 9, 3) := by decide +kernel
theorem dX0_bend_20 : decode cX0_bend 20 = .ok (.iload_n 1, 1) := by decide +kernel
theorem dX0_bend_21 : decode cX0_bend 21 = .ok (.iload_n 2, 1) := by decide +kernel
theorem dX0_bend_22 : decode cX0_bend 22 = .ok (.iastore, 1) := by decide +kernel
theorem dX0_bend_23 : decode cX0_bend 23 = .ok (.aload_n 0, 1) := by decide +kernel
theorem dX0_bend_24 : decode cX0_bend 24 = .ok (.iload_n 1, 1) := by decide +kernel
theorem dX0_bend_25 : decode cX0_bend 25 = .ok (.invokevirtual 67, 3) := by decide +kernel
theorem dX0_bend_28 : decode cX0_bend 28 = .ok (.aload_n 0, 1) := by decide +kernel
theorem dX0_bend_29 : decode cX0_bend 29 = .ok (.invokevirtual 75, 3) := by decide +kernel
theorem dX0_bend_32 : decode cX0_bend 32 = .ok (.iload_n 3, 1) := by decide +kernel
theorem dX0_bend_33 : decode cX0_bend 33 = .ok (.ireturn, 1) := by decide +kernel
theorem dX0_setWord_0 : decode cX0_setWord 0 = .ok (.iload_n 1, 1) := by decide +kernel
theorem dX0_setWord_1 : decode cX0_setWord 1 = .ok (.invokestatic 78, 3) := by decide +kernel
theorem dX0_setWord_4 : decode cX0_setWord 4 = .ok (.iload_n 2, 1) := by decide +kernel
theorem dX0_setWord_5 : decode cX0_setWord 5 = .ok (.invokestatic 81, 3) := by decide +kernel
theorem dX0_setWord_8 : decode cX0_setWord 8 = .ok (.ifCond .ne 13, 3) := by decide +kernel
theorem dX0_setWord_11 : decode cX0_setWord 11 = .ok (.new 46, 3) := by decide +kernel
theorem dX0_setWord_14 : decode cX0_setWord 14 = .ok (.dup, 1) := by decide +kernel
theorem dX0_setWord_15 : decode cX0_setWord 15 = .ok (.ldc 84, 2) := by decide +kernel
theorem dX0_setWord_17 : decode cX0_setWord 17 = .ok (.invokespecial 50, 3) := by decide +kernel
theorem dX0_setWord_20 : decode cX0_setWord 20 = .ok (.athrow, 1) := by decide +kernel
theorem dX0_setWord_21 : decode cX0_setWord 21 = .ok (.aload_n 0, 1) := by decide +kernel
theorem dX0_setWord_22 : decode cX0_setWord 22 = .ok (.getfield 23, 3) := by decide +kernel
theorem dX0_setWord_25 : decode cX0_setWord 25 = .ok (.iload_n 1, 1) := by decide +kernel
theorem dX0_setWord_26 : decode cX0_setWord 26 = .ok (.iaload, 1) := by decide +kernel
theorem dX0_setWord_27 : decode cX0_setWord 27 = .ok (.istore_n 3, 1) := by decide +kernel
theorem dX0_setWord_28 : decode cX0_setWord 28 = .ok (.aload_n 0, 1) := by decide +kernel
theorem dX0_setWord_29 : decode cX0_setWord 29 = .ok (.getfield 23, 3) := by decide +kernel
theorem dX0_setWord_32 : decode cX0_setWord 32 = .ok (.iload_n 1, 1) := by decide +kernel
theorem dX0_setWord_33 : decode cX0_setWord 33 = .ok (.iload_n 2, 1) := by decide +kernel
theorem dX0_setWord_34 : decode cX0_setWord 34 = .ok (.iastore, 1) := by decide +kernel
theorem dX0_setWord_35 : decode cX0_setWord 35 = .ok (.aload_n 0, 1) := by decide +kernel
theorem dX0_setWord_36 : decode cX0_setWord 36 = .ok (.invokevirtual 75, 3) := by decide +kernel
theorem dX0_setWord_39 : decode cX0_setWord 39 = .ok (.iload_n 3, 1) := by decide +kernel
theorem dX0_setWord_40 : decode cX0_setWord 40 = .ok (.ireturn, 1) := by decide +kernel
theorem dX0_setStep_0 : decode cX0_setStep 0 = .ok (.iload_n 1, 1) := by decide +kernel
theorem dX0_setStep_1 : decode cX0_setStep 1 = .ok (.iconst 1, 1) := by decide +kernel
theorem dX0_setStep_2 : decode cX0_setStep 2 = .ok (.if_icmp .lt 8, 3) := by decide +kernel
theorem dX0_setStep_5 : decode cX0_setStep 5 = .ok (.iload_n 1, 1) := by decide +kernel
theorem dX0_setStep_6 : decode cX0_setStep 6 = .ok (.iconst 4, 1) := by decide +kernel
theorem dX0_setStep_7 : decode cX0_setStep 7 = .ok (.if_icmp .le 13, 3) := by decide +kernel
theorem dX0_setStep_10 : decode cX0_setStep 10 = .ok (.new 46, 3) := by decide +kernel
theorem dX0_setStep_13 : decode cX0_setStep 13 = .ok (.dup, 1) := by decide +kernel
theorem dX0_setStep_14 : decode cX0_setStep 14 = .ok (.ldc 86, 2) := by decide +kernel
theorem dX0_setStep_16 : decode cX0_setStep 16 = .ok (.invokespecial 50, 3) := by decide +kernel
theorem dX0_setStep_19 : decode cX0_setStep 19 = .ok (.athrow, 1) := by decide +kernel
theorem dX0_setStep_20 : decode cX0_setStep 20 = .ok (.aload_n 0, 1) := by decide +kernel
theorem dX0_setStep_21 : decode cX0_setStep 21 = .ok (.getfield 38, 3) := by decide +kernel
theorem dX0_setStep_24 : decode cX0_setStep 24 = .ok (.istore_n 2, 1) := by decide +kernel
theorem dX0_setStep_25 : decode cX0_setStep 25 = .ok (.aload_n 0, 1) := by decide +kernel
theorem dX0_setStep_26 : decode cX0_setStep 26 = .ok (.iload_n 1, 1) := by decide +kernel
theorem dX0_setStep_27 : decode cX0_setStep 27 = .ok (.putfield 38, 3) := by decide +kernel
theorem dX0_setStep_30 : decode cX0_setStep 30 = .ok (.aload_n 0, 1) := by decide +kernel
theorem dX0_setStep_31 : decode cX0_setStep 31 = .ok (.iconst 0, 1) := by decide +kernel
theorem dX0_setStep_32 : decode cX0_setStep 32 = .ok (.invokevirtual 67, 3) := by decide +kernel
theorem dX0_setStep_35 : decode cX0_setStep 35 = .ok (.aload_n 0, 1) := by decide +kernel
theorem dX0_setStep_36 : decode cX0_setStep 36 = .ok (.invokevirtual 75, 3) := by decide +kernel
theorem dX0_setStep_39 : decode cX0_setStep 39 = .ok (.iload_n 2, 1) := by decide +kernel
theorem dX0_setStep_40 : decode cX0_setStep 40 = .ok (.ireturn, 1) := by decide +kernel
theorem dX0_legs_0 : decode cX0_legs 0 = .ok (.aload_n 0, 1) := by decide +kernel
theorem dX0_legs_1 : decode cX0_legs 1 = .ok (.getfield 59, 3) := by decide +kernel
theorem dX0_legs_4 : decode cX0_legs 4 = .ok (.ireturn, 1) := by decide +kernel
theorem dX0_step_0 : decode cX0_step 0 = .ok (.aload_n 0, 1) := by decide +kernel
theorem dX0_step_1 : decode cX0_step 1 = .ok (.getfield 38, 3) := by decide +kernel
theorem dX0_step_4 : decode cX0_step 4 = .ok (.ireturn, 1) := by decide +kernel
theorem dX0_endX_0 : decode cX0_endX 0 = .ok (.aload_n 0, 1) := by decide +kernel
theorem dX0_endX_1 : decode cX0_endX 1 = .ok (.aload_n 0, 1) := by decide +kernel
theorem dX0_endX_2 : decode cX0_endX 2 = .ok (.getfield 59, 3) := by decide +kernel
theorem dX0_endX_5 : decode cX0_endX 5 = .ok (.invokevirtual 88, 3) := by decide +kernel
theorem dX0_endX_8 : decode cX0_endX 8 = .ok (.ireturn, 1) := by decide +kernel
theorem dX0_endY_0 : decode cX0_endY 0 = .ok (.aload_n 0, 1) := by decide +kernel
theorem dX0_endY_1 : decode cX0_endY 1 = .ok (.aload_n 0, 1) := by decide +kernel
theorem dX0_endY_2 : decode cX0_endY 2 = .ok (.getfield 59, 3) := by decide +kernel
theorem dX0_endY_5 : decode cX0_endY 5 = .ok (.invokevirtual 92, 3) := by decide +kernel
theorem dX0_endY_8 : decode cX0_endY 8 = .ok (.ireturn, 1) := by decide +kernel
theorem dX0_stepsHome_0 : decode cX0_stepsHome 0 = .ok (.aload_n 0, 1) := by decide +kernel
theorem dX0_stepsHome_1 : decode cX0_stepsHome 1 = .ok (.invokevirtual 95, 3) := by decide +kernel
theorem dX0_stepsHome_4 : decode cX0_stepsHome 4 = .ok (.invokestatic 99, 3) := by decide +kernel
theorem dX0_stepsHome_7 : decode cX0_stepsHome 7 = .ok (.aload_n 0, 1) := by decide +kernel
theorem dX0_stepsHome_8 : decode cX0_stepsHome 8 = .ok (.invokevirtual 104, 3) := by decide +kernel
theorem dX0_stepsHome_11 : decode cX0_stepsHome 11 = .ok (.invokestatic 99, 3) := by decide +kernel
theorem dX0_stepsHome_14 : decode cX0_stepsHome 14 = .ok (.invokestatic 107, 3) := by decide +kernel
theorem dX0_stepsHome_17 : decode cX0_stepsHome 17 = .ok (.ireturn, 1) := by decide +kernel
theorem dX0_returns_0 : decode cX0_returns 0 = .ok (.iconst 0, 1) := by decide +kernel
theorem dX0_returns_1 : decode cX0_returns 1 = .ok (.istore_n 1, 1) := by decide +kernel
theorem dX0_returns_2 : decode cX0_returns 2 = .ok (.iconst 0, 1) := by decide +kernel
theorem dX0_returns_3 : decode cX0_returns 3 = .ok (.istore_n 2, 1) := by decide +kernel
theorem dX0_returns_4 : decode cX0_returns 4 = .ok (.iload_n 2, 1) := by decide +kernel
theorem dX0_returns_5 : decode cX0_returns 5 = .ok (.aload_n 0, 1) := by decide +kernel
theorem dX0_returns_6 : decode cX0_returns 6 = .ok (.getfield 59, 3) := by decide +kernel
theorem dX0_returns_9 : decode cX0_returns 9 = .ok (.if_icmp .ge 20, 3) := by decide +kernel
theorem dX0_returns_12 : decode cX0_returns 12 = .ok (.aload_n 0, 1) := by decide +kernel
theorem dX0_returns_13 : decode cX0_returns 13 = .ok (.iload_n 2, 1) := by decide +kernel
theorem dX0_returns_14 : decode cX0_returns 14 = .ok (.invokevirtual 111, 3) := by decide +kernel
theorem dX0_returns_17 : decode cX0_returns 17 = .ok (.ifCond .eq 6, 3) := by decide +kernel
theorem dX0_returns_20 : decode cX0_returns 20 = .ok (.iinc 1 1, 3) := by decide +kernel
theorem dX0_returns_23 : decode cX0_returns 23 = .ok (.iinc 2 1, 3) := by decide +kernel
theorem dX0_returns_26 : decode cX0_returns 26 = .ok (.goto (-22), 3) := by decide +kernel
theorem dX0_returns_29 : decode cX0_returns 29 = .ok (.iload_n 1, 1) := by decide +kernel
theorem dX0_returns_30 : decode cX0_returns 30 = .ok (.ireturn, 1) := by decide +kernel
theorem dX0_turnOf_0 : decode cX0_turnOf 0 = .ok (.aload_n 0, 1) := by decide +kernel
theorem dX0_turnOf_1 : decode cX0_turnOf 1 = .ok (.iload_n 1, 1) := by decide +kernel
theorem dX0_turnOf_2 : decode cX0_turnOf 2 = .ok (.invokevirtual 72, 3) := by decide +kernel
theorem dX0_turnOf_5 : decode cX0_turnOf 5 = .ok (.aload_n 0, 1) := by decide +kernel
theorem dX0_turnOf_6 : decode cX0_turnOf 6 = .ok (.getfield 9, 3) := by decide +kernel
theorem dX0_turnOf_9 : decode cX0_turnOf 9 = .ok (.iload_n 1, 1) := by decide +kernel
theorem dX0_turnOf_10 : decode cX0_turnOf 10 = .ok (.iaload, 1) := by decide +kernel
theorem dX0_turnOf_11 : decode cX0_turnOf 11 = .ok (.ireturn, 1) := by decide +kernel
theorem dX0_headingOf_0 : decode cX0_headingOf 0 = .ok (.aload_n 0, 1) := by decide +kernel
theorem dX0_headingOf_1 : decode cX0_headingOf 1 = .ok (.iload_n 1, 1) := by decide +kernel
theorem dX0_headingOf_2 : decode cX0_headingOf 2 = .ok (.invokevirtual 72, 3) := by decide +kernel
theorem dX0_headingOf_5 : decode cX0_headingOf 5 = .ok (.aload_n 0, 1) := by decide +kernel
theorem dX0_headingOf_6 : decode cX0_headingOf 6 = .ok (.getfield 26, 3) := by decide +kernel
theorem dX0_headingOf_9 : decode cX0_headingOf 9 = .ok (.iload_n 1, 1) := by decide +kernel
theorem dX0_headingOf_10 : decode cX0_headingOf 10 = .ok (.iaload, 1) := by decide +kernel
theorem dX0_headingOf_11 : decode cX0_headingOf 11 = .ok (.ireturn, 1) := by decide +kernel
theorem dX0_landmarkOf_0 : decode cX0_landmarkOf 0 = .ok (.aload_n 0, 1) := by decide +kernel
theorem dX0_landmarkOf_1 : decode cX0_landmarkOf 1 = .ok (.iload_n 1, 1) := by decide +kernel
theorem dX0_landmarkOf_2 : decode cX0_landmarkOf 2 = .ok (.invokevirtual 72, 3) := by decide +kernel
theorem dX0_landmarkOf_5 : decode cX0_landmarkOf 5 = .ok (.aload_n 0, 1) := by decide +kernel
theorem dX0_landmarkOf_6 : decode cX0_landmarkOf 6 = .ok (.getfield 16, 3) := by decide +kernel
theorem dX0_landmarkOf_9 : decode cX0_landmarkOf 9 = .ok (.iload_n 1, 1) := by decide +kernel
theorem dX0_landmarkOf_10 : decode cX0_landmarkOf 10 = .ok (.iaload, 1) := by decide +kernel
theorem dX0_landmarkOf_11 : decode cX0_landmarkOf 11 = .ok (.ireturn, 1) := by decide +kernel
theorem dX0_noteOf_0 : decode cX0_noteOf 0 = .ok (.aload_n 0, 1) := by decide +kernel
theorem dX0_noteOf_1 : decode cX0_noteOf 1 = .ok (.iload_n 1, 1) := by decide +kernel
theorem dX0_noteOf_2 : decode cX0_noteOf 2 = .ok (.invokevirtual 72, 3) := by decide +kernel
theorem dX0_noteOf_5 : decode cX0_noteOf 5 = .ok (.aload_n 0, 1) := by decide +kernel
theorem dX0_noteOf_6 : decode cX0_noteOf 6 = .ok (.getfield 35, 3) := by decide +kernel
theorem dX0_noteOf_9 : decode cX0_noteOf 9 = .ok (.iload_n 1, 1) := by decide +kernel
theorem dX0_noteOf_10 : decode cX0_noteOf 10 = .ok (.iaload, 1) := by decide +kernel
theorem dX0_noteOf_11 : decode cX0_noteOf 11 = .ok (.ireturn, 1) := by decide +kernel
theorem dX0_isFolded_0 : decode cX0_isFolded 0 = .ok (.aload_n 0, 1) := by decide +kernel
theorem dX0_isFolded_1 : decode cX0_isFolded 1 = .ok (.iload_n 1, 1) := by decide +kernel
theorem dX0_isFolded_2 : decode cX0_isFolded 2 = .ok (.invokevirtual 72, 3) := by decide +kernel
theorem dX0_isFolded_5 : decode cX0_isFolded 5 = .ok (.aload_n 0, 1) := by decide +kernel
theorem dX0_isFolded_6 : decode cX0_isFolded 6 = .ok (.iload_n 1, 1) := by decide +kernel
theorem dX0_isFolded_7 : decode cX0_isFolded 7 = .ok (.invokevirtual 114, 3) := by decide +kernel
theorem dX0_isFolded_10 : decode cX0_isFolded 10 = .ok (.aload_n 0, 1) := by decide +kernel
theorem dX0_isFolded_11 : decode cX0_isFolded 11 = .ok (.getfield 9, 3) := by decide +kernel
theorem dX0_isFolded_14 : decode cX0_isFolded 14 = .ok (.iload_n 1, 1) := by decide +kernel
theorem dX0_isFolded_15 : decode cX0_isFolded 15 = .ok (.iaload, 1) := by decide +kernel
theorem dX0_isFolded_16 : decode cX0_isFolded 16 = .ok (.aload_n 0, 1) := by decide +kernel
theorem dX0_isFolded_17 : decode cX0_isFolded 17 = .ok (.getfield 38, 3) := by decide +kernel
theorem dX0_isFolded_20 : decode cX0_isFolded 20 = .ok (.imul, 1) := by decide +kernel
theorem dX0_isFolded_21 : decode cX0_isFolded 21 = .ok (.iadd, 1) := by decide +kernel
theorem dX0_isFolded_22 : decode cX0_isFolded 22 = .ok (.invokestatic 117, 3) := by decide +kernel
theorem dX0_isFolded_25 : decode cX0_isFolded 25 = .ok (.ireturn, 1) := by decide +kernel
theorem dX0_wordIn_0 : decode cX0_wordIn 0 = .ok (.aload_n 0, 1) := by decide +kernel
theorem dX0_wordIn_1 : decode cX0_wordIn 1 = .ok (.iload_n 1, 1) := by decide +kernel
theorem dX0_wordIn_2 : decode cX0_wordIn 2 = .ok (.invokevirtual 72, 3) := by decide +kernel
theorem dX0_wordIn_5 : decode cX0_wordIn 5 = .ok (.aload_n 0, 1) := by decide +kernel
theorem dX0_wordIn_6 : decode cX0_wordIn 6 = .ok (.getfield 23, 3) := by decide +kernel
theorem dX0_wordIn_9 : decode cX0_wordIn 9 = .ok (.aload_n 0, 1) := by decide +kernel
theorem dX0_wordIn_10 : decode cX0_wordIn 10 = .ok (.getfield 16, 3) := by decide +kernel
theorem dX0_wordIn_13 : decode cX0_wordIn 13 = .ok (.iload_n 1, 1) := by decide +kernel
theorem dX0_wordIn_14 : decode cX0_wordIn 14 = .ok (.iaload, 1) := by decide +kernel
theorem dX0_wordIn_15 : decode cX0_wordIn 15 = .ok (.iaload, 1) := by decide +kernel
theorem dX0_wordIn_16 : decode cX0_wordIn 16 = .ok (.ireturn, 1) := by decide +kernel
theorem dX0_wordOf_0 : decode cX0_wordOf 0 = .ok (.iload_n 1, 1) := by decide +kernel
theorem dX0_wordOf_1 : decode cX0_wordOf 1 = .ok (.invokestatic 78, 3) := by decide +kernel
theorem dX0_wordOf_4 : decode cX0_wordOf 4 = .ok (.aload_n 0, 1) := by decide +kernel
theorem dX0_wordOf_5 : decode cX0_wordOf 5 = .ok (.getfield 23, 3) := by decide +kernel
theorem dX0_wordOf_8 : decode cX0_wordOf 8 = .ok (.iload_n 1, 1) := by decide +kernel
theorem dX0_wordOf_9 : decode cX0_wordOf 9 = .ok (.iaload, 1) := by decide +kernel
theorem dX0_wordOf_10 : decode cX0_wordOf 10 = .ok (.ireturn, 1) := by decide +kernel
theorem dX0_beats_0 : decode cX0_beats 0 = .ok (.iconst 0, 1) := by decide +kernel
theorem dX0_beats_1 : decode cX0_beats 1 = .ok (.istore_n 1, 1) := by decide +kernel
theorem dX0_beats_2 : decode cX0_beats 2 = .ok (.iconst 0, 1) := by decide +kernel
theorem dX0_beats_3 : decode cX0_beats 3 = .ok (.istore_n 2, 1) := by decide +kernel
theorem dX0_beats_4 : decode cX0_beats 4 = .ok (.iload_n 2, 1) := by decide +kernel
theorem dX0_beats_5 : decode cX0_beats 5 = .ok (.aload_n 0, 1) := by decide +kernel
theorem dX0_beats_6 : decode cX0_beats 6 = .ok (.getfield 59, 3) := by decide +kernel
theorem dX0_beats_9 : decode cX0_beats 9 = .ok (.if_icmp .ge 18, 3) := by decide +kernel
theorem dX0_beats_12 : decode cX0_beats 12 = .ok (.iload_n 1, 1) := by decide +kernel
theorem dX0_beats_13 : decode cX0_beats 13 = .ok (.aload_n 0, 1) := by decide +kernel
theorem dX0_beats_14 : decode cX0_beats 14 = .ok (.getfield 13, 3) := by decide +kernel
theorem dX0_beats_17 : decode cX0_beats 17 = .ok (.iload_n 2, 1) := by decide +kernel
theorem dX0_beats_18 : decode cX0_beats 18 = .ok (.iaload, 1) := by decide +kernel
theorem dX0_beats_19 : decode cX0_beats 19 = .ok (.iadd, 1) := by decide +kernel
theorem dX0_beats_20 : decode cX0_beats 20 = .ok (.istore_n 1, 1) := by decide +kernel
theorem dX0_beats_21 : decode cX0_beats 21 = .ok (.iinc 2 1, 3) := by decide +kernel
theorem dX0_beats_24 : decode cX0_beats 24 = .ok (.goto (-20), 3) := by decide +kernel
theorem dX0_beats_27 : decode cX0_beats 27 = .ok (.iload_n 1, 1) := by decide +kernel
theorem dX0_beats_28 : decode cX0_beats 28 = .ok (.ireturn, 1) := by decide +kernel
theorem dX0_folded_0 : decode cX0_folded 0 = .ok (.iconst 0, 1) := by decide +kernel
theorem dX0_folded_1 : decode cX0_folded 1 = .ok (.istore_n 1, 1) := by decide +kernel
theorem dX0_folded_2 : decode cX0_folded 2 = .ok (.iconst 0, 1) := by decide +kernel
theorem dX0_folded_3 : decode cX0_folded 3 = .ok (.istore_n 2, 1) := by decide +kernel
theorem dX0_folded_4 : decode cX0_folded 4 = .ok (.iload_n 2, 1) := by decide +kernel
theorem dX0_folded_5 : decode cX0_folded 5 = .ok (.aload_n 0, 1) := by decide +kernel
theorem dX0_folded_6 : decode cX0_folded 6 = .ok (.getfield 59, 3) := by decide +kernel
theorem dX0_folded_9 : decode cX0_folded 9 = .ok (.if_icmp .ge 20, 3) := by decide +kernel
theorem dX0_folded_12 : decode cX0_folded 12 = .ok (.aload_n 0, 1) := by decide +kernel
theorem dX0_folded_13 : decode cX0_folded 13 = .ok (.iload_n 2, 1) := by decide +kernel
theorem dX0_folded_14 : decode cX0_folded 14 = .ok (.invokevirtual 120, 3) := by decide +kernel
theorem dX0_folded_17 : decode cX0_folded 17 = .ok (.ifCond .eq 6, 3) := by decide +kernel
theorem dX0_folded_20 : decode cX0_folded 20 = .ok (.iinc 1 1, 3) := by decide +kernel
theorem dX0_folded_23 : decode cX0_folded 23 = .ok (.iinc 2 1, 3) := by decide +kernel
theorem dX0_folded_26 : decode cX0_folded 26 = .ok (.goto (-22), 3) := by decide +kernel
theorem dX0_folded_29 : decode cX0_folded 29 = .ok (.iload_n 1, 1) := by decide +kernel
theorem dX0_folded_30 : decode cX0_folded 30 = .ok (.ireturn, 1) := by decide +kernel
theorem dX0_range_0 : decode cX0_range 0 = .ok (.aload_n 0, 1) := by decide +kernel
theorem dX0_range_1 : decode cX0_range 1 = .ok (.getfield 59, 3) := by decide +kernel
theorem dX0_range_4 : decode cX0_range 4 = .ok (.ifCond .gt 5, 3) := by decide +kernel
theorem dX0_range_7 : decode cX0_range 7 = .ok (.iconst 0, 1) := by decide +kernel
theorem dX0_range_8 : decode cX0_range 8 = .ok (.ireturn, 1) := by decide +kernel
theorem dX0_range_9 : decode cX0_range 9 = .ok (.aload_n 0, 1) := by decide +kernel
theorem dX0_range_10 : decode cX0_range 10 = .ok (.getfield 35, 3) := by decide +kernel
theorem dX0_range_13 : decode cX0_range 13 = .ok (.iconst 0, 1) := by decide +kernel
theorem dX0_range_14 : decode cX0_range 14 = .ok (.iaload, 1) := by decide +kernel
theorem dX0_range_15 : decode cX0_range 15 = .ok (.istore_n 1, 1) := by decide +kernel
theorem dX0_range_16 : decode cX0_range 16 = .ok (.aload_n 0, 1) := by decide +kernel
theorem dX0_range_17 : decode cX0_range 17 = .ok (.getfield 35, 3) := by decide +kernel
theorem dX0_range_20 : decode cX0_range 20 = .ok (.iconst 0, 1) := by decide +kernel
theorem dX0_range_21 : decode cX0_range 21 = .ok (.iaload, 1) := by decide +kernel
theorem dX0_range_22 : decode cX0_range 22 = .ok (.istore_n 2, 1) := by decide +kernel
theorem dX0_range_23 : decode cX0_range 23 = .ok (.iconst 1, 1) := by decide +kernel
theorem dX0_range_24 : decode cX0_range 24 = .ok (.istore_n 3, 1) := by decide +kernel
theorem dX0_range_25 : decode cX0_range 25 = .ok (.iload_n 3, 1) := by decide +kernel
theorem dX0_range_26 : decode cX0_range 26 = .ok (.aload_n 0, 1) := by decide +kernel
theorem dX0_range_27 : decode cX0_range 27 = .ok (.getfield 59, 3) := by decide +kernel
theorem dX0_range_30 : decode cX0_range 30 = .ok (.if_icmp .ge 31, 3) := by decide +kernel
theorem dX0_range_33 : decode cX0_range 33 = .ok (.iload_n 1, 1) := by decide +kernel
theorem dX0_range_34 : decode cX0_range 34 = .ok (.aload_n 0, 1) := by decide +kernel
theorem dX0_range_35 : decode cX0_range 35 = .ok (.getfield 35, 3) := by decide +kernel
theorem dX0_range_38 : decode cX0_range 38 = .ok (.iload_n 3, 1) := by decide +kernel
theorem dX0_range_39 : decode cX0_range 39 = .ok (.iaload, 1) := by decide +kernel
theorem dX0_range_40 : decode cX0_range 40 = .ok (.invokestatic 123, 3) := by decide +kernel
theorem dX0_range_43 : decode cX0_range 43 = .ok (.istore_n 1, 1) := by decide +kernel
theorem dX0_range_44 : decode cX0_range 44 = .ok (.iload_n 2, 1) := by decide +kernel
theorem dX0_range_45 : decode cX0_range 45 = .ok (.aload_n 0, 1) := by decide +kernel
theorem dX0_range_46 : decode cX0_range 46 = .ok (.getfield 35, 3) := by decide +kernel
theorem dX0_range_49 : decode cX0_range 49 = .ok (.iload_n 3, 1) := by decide +kernel
theorem dX0_range_50 : decode cX0_range 50 = .ok (.iaload, 1) := by decide +kernel
theorem dX0_range_51 : decode cX0_range 51 = .ok (.invokestatic 107, 3) := by decide +kernel
theorem dX0_range_54 : decode cX0_range 54 = .ok (.istore_n 2, 1) := by decide +kernel
theorem dX0_range_55 : decode cX0_range 55 = .ok (.iinc 3 1, 3) := by decide +kernel
theorem dX0_range_58 : decode cX0_range 58 = .ok (.goto (-33), 3) := by decide +kernel
theorem dX0_range_61 : decode cX0_range 61 = .ok (.iload_n 2, 1) := by decide +kernel
theorem dX0_range_62 : decode cX0_range 62 = .ok (.iload_n 1, 1) := by decide +kernel
theorem dX0_range_63 : decode cX0_range 63 = .ok (.isub, 1) := by decide +kernel
theorem dX0_range_64 : decode cX0_range 64 = .ok (.ireturn, 1) := by decide +kernel
theorem dX0_sungWith_0 : decode cX0_sungWith 0 = .ok (.iload_n 1, 1) := by decide +kernel
theorem dX0_sungWith_1 : decode cX0_sungWith 1 = .ok (.invokestatic 126, 3) := by decide +kernel
theorem dX0_sungWith_4 : decode cX0_sungWith 4 = .ok (.iconst 0, 1) := by decide +kernel
theorem dX0_sungWith_5 : decode cX0_sungWith 5 = .ok (.istore_n 2, 1) := by decide +kernel
theorem dX0_sungWith_6 : decode cX0_sungWith 6 = .ok (.iconst 0, 1) := by decide +kernel
theorem dX0_sungWith_7 : decode cX0_sungWith 7 = .ok (.istore_n 3, 1) := by decide +kernel
theorem dX0_sungWith_8 : decode cX0_sungWith 8 = .ok (.iload_n 3, 1) := by decide +kernel
theorem dX0_sungWith_9 : decode cX0_sungWith 9 = .ok (.aload_n 0, 1) := by decide +kernel
theorem dX0_sungWith_10 : decode cX0_sungWith 10 = .ok (.getfield 59, 3) := by decide +kernel
theorem dX0_sungWith_13 : decode cX0_sungWith 13 = .ok (.if_icmp .ge 27, 3) := by decide +kernel
theorem dX0_sungWith_16 : decode cX0_sungWith 16 = .ok (.aload_n 0, 1) := by decide +kernel
theorem dX0_sungWith_17 : decode cX0_sungWith 17 = .ok (.getfield 23, 3) := by decide +kernel
theorem dX0_sungWith_20 : decode cX0_sungWith 20 = .ok (.aload_n 0, 1) := by decide +kernel
theorem dX0_sungWith_21 : decode cX0_sungWith 21 = .ok (.getfield 16, 3) := by decide +kernel
theorem dX0_sungWith_24 : decode cX0_sungWith 24 = .ok (.iload_n 3, 1) := by decide +kernel
theorem dX0_sungWith_25 : decode cX0_sungWith 25 = .ok (.iaload, 1) := by decide +kernel
theorem dX0_sungWith_26 : decode cX0_sungWith 26 = .ok (.iaload, 1) := by decide +kernel
theorem dX0_sungWith_27 : decode cX0_sungWith 27 = .ok (.iload_n 1, 1) := by decide +kernel
theorem dX0_sungWith_28 : decode cX0_sungWith 28 = .ok (.if_icmp .ne 6, 3) := by decide +kernel
theorem dX0_sungWith_31 : decode cX0_sungWith 31 = .ok (.iinc 2 1, 3) := by decide +kernel
theorem dX0_sungWith_34 : decode cX0_sungWith 34 = .ok (.iinc 3 1, 3) := by decide +kernel
theorem dX0_sungWith_37 : decode cX0_sungWith 37 = .ok (.goto (-29), 3) := by decide +kernel
theorem dX0_sungWith_40 : decode cX0_sungWith 40 = .ok (.iload_n 2, 1) := by decide +kernel
theorem dX0_sungWith_41 : decode cX0_sungWith 41 = .ok (.ireturn, 1) := by decide +kernel
theorem dX0_readings_0 : decode cX0_readings 0 = .ok (.aload_n 0, 1) := by decide +kernel
theorem dX0_readings_1 : decode cX0_readings 1 = .ok (.iload_n 1, 1) := by decide +kernel
theorem dX0_readings_2 : decode cX0_readings 2 = .ok (.invokevirtual 72, 3) := by decide +kernel
theorem dX0_readings_5 : decode cX0_readings 5 = .ok (.aload_n 0, 1) := by decide +kernel
theorem dX0_readings_6 : decode cX0_readings 6 = .ok (.getfield 35, 3) := by decide +kernel
theorem dX0_readings_9 : decode cX0_readings 9 = .ok (.iload_n 1, 1) := by decide +kernel
theorem dX0_readings_10 : decode cX0_readings 10 = .ok (.iaload, 1) := by decide +kernel
theorem dX0_readings_11 : decode cX0_readings 11 = .ok (.aload_n 0, 1) := by decide +kernel
theorem dX0_readings_12 : decode cX0_readings 12 = .ok (.iload_n 1, 1) := by decide +kernel
theorem dX0_readings_13 : decode cX0_readings 13 = .ok (.invokevirtual 114, 3) := by decide +kernel
theorem dX0_readings_16 : decode cX0_readings 16 = .ok (.aload_n 0, 1) := by decide +kernel
theorem dX0_readings_17 : decode cX0_readings 17 = .ok (.getfield 38, 3) := by decide +kernel
theorem dX0_readings_20 : decode cX0_readings 20 = .ok (.iconst 4, 1) := by decide +kernel
theorem dX0_readings_21 : decode cX0_readings 21 = .ok (.invokestatic 129, 3) := by decide +kernel
theorem dX0_readings_24 : decode cX0_readings 24 = .ok (.istore_n 2, 1) := by decide +kernel
theorem dX0_readings_25 : decode cX0_readings 25 = .ok (.iload_n 2, 1) := by decide +kernel
theorem dX0_readings_26 : decode cX0_readings 26 = .ok (.aload_n 0, 1) := by decide +kernel
theorem dX0_readings_27 : decode cX0_readings 27 = .ok (.aload_n 0, 1) := by decide +kernel
theorem dX0_readings_28 : decode cX0_readings 28 = .ok (.getfield 23, 3) := by decide +kernel
theorem dX0_readings_31 : decode cX0_readings 31 = .ok (.aload_n 0, 1) := by decide +kernel
theorem dX0_readings_32 : decode cX0_readings 32 = .ok (.getfield 16, 3) := by decide +kernel
theorem dX0_readings_35 : decode cX0_readings 35 = .ok (.iload_n 1, 1) := by decide +kernel
theorem dX0_readings_36 : decode cX0_readings 36 = .ok (.iaload, 1) := by decide +kernel
theorem dX0_readings_37 : decode cX0_readings 37 = .ok (.iaload, 1) := by decide +kernel
theorem dX0_readings_38 : decode cX0_readings 38 = .ok (.bipush 10, 2) := by decide +kernel
theorem dX0_readings_40 : decode cX0_readings 40 = .ok (.invokevirtual 133, 3) := by decide +kernel
theorem dX0_readings_43 : decode cX0_readings 43 = .ok (.imul, 1) := by decide +kernel
theorem dX0_readings_44 : decode cX0_readings 44 = .ok (.ireturn, 1) := by decide +kernel
theorem dX0_rightReading_0 : decode cX0_rightReading 0 = .ok (.aload_n 0, 1) := by decide +kernel
theorem dX0_rightReading_1 : decode cX0_rightReading 1 = .ok (.iload_n 1, 1) := by decide +kernel
theorem dX0_rightReading_2 : decode cX0_rightReading 2 = .ok (.invokevirtual 72, 3) := by decide +kernel
theorem dX0_rightReading_5 : decode cX0_rightReading 5 = .ok (.aload_n 0, 1) := by decide +kernel
theorem dX0_rightReading_6 : decode cX0_rightReading 6 = .ok (.getfield 23, 3) := by decide +kernel
theorem dX0_rightReading_9 : decode cX0_rightReading 9 = .ok (.aload_n 0, 1) := by decide +kernel
theorem dX0_rightReading_10 : decode cX0_rightReading 10 = .ok (.getfield 16, 3) := by decide +kernel
theorem dX0_rightReading_13 : decode cX0_rightReading 13 = .ok (.iload_n 1, 1) := by decide +kernel
theorem dX0_rightReading_14 : decode cX0_rightReading 14 = .ok (.iaload, 1) := by decide +kernel
theorem dX0_rightReading_15 : decode cX0_rightReading 15 = .ok (.iaload, 1) := by decide +kernel
theorem dX0_rightReading_16 : decode cX0_rightReading 16 = .ok (.istore_n 2, 1) := by decide +kernel
theorem dX0_rightReading_17 : decode cX0_rightReading 17 = .ok (.aload_n 0, 1) := by decide +kernel
theorem dX0_rightReading_18 : decode cX0_rightReading 18 = .ok (.getfield 35, 3) := by decide +kernel
theorem dX0_rightReading_21 : decode cX0_rightReading 21 = .ok (.iload_n 1, 1) := by decide +kernel
theorem dX0_rightReading_22 : decode cX0_rightReading 22 = .ok (.iaload, 1) := by decide +kernel
theorem dX0_rightReading_23 : decode cX0_rightReading 23 = .ok (.aload_n 0, 1) := by decide +kernel
theorem dX0_rightReading_24 : decode cX0_rightReading 24 = .ok (.iload_n 1, 1) := by decide +kernel
theorem dX0_rightReading_25 : decode cX0_rightReading 25 = .ok (.invokevirtual 114, 3) := by decide +kernel
theorem dX0_rightReading_28 : decode cX0_rightReading 28 = .ok (.aload_n 0, 1) := by decide +kernel
theorem dX0_rightReading_29 : decode cX0_rightReading 29 = .ok (.getfield 38, 3) := by decide +kernel
theorem dX0_rightReading_32 : decode cX0_rightReading 32 = .ok (.aload_n 0, 1) := by decide +kernel
theorem dX0_rightReading_33 : decode cX0_rightReading 33 = .ok (.getfield 9, 3) := by decide +kernel
theorem dX0_rightReading_36 : decode cX0_rightReading 36 = .ok (.iload_n 1, 1) := by decide +kernel
theorem dX0_rightReading_37 : decode cX0_rightReading 37 = .ok (.iaload, 1) := by decide +kernel
theorem dX0_rightReading_38 : decode cX0_rightReading 38 = .ok (.invokestatic 129, 3) := by decide +kernel
theorem dX0_rightReading_41 : decode cX0_rightReading 41 = .ok (.istore_n 3, 1) := by decide +kernel
theorem dX0_rightReading_42 : decode cX0_rightReading 42 = .ok (.iload_n 3, 1) := by decide +kernel
theorem dX0_rightReading_43 : decode cX0_rightReading 43 = .ok (.aload_n 0, 1) := by decide +kernel
theorem dX0_rightReading_44 : decode cX0_rightReading 44 = .ok (.iload_n 2, 1) := by decide +kernel
theorem dX0_rightReading_45 : decode cX0_rightReading 45 = .ok (.bipush 10, 2) := by decide +kernel
theorem dX0_rightReading_47 : decode cX0_rightReading 47 = .ok (.invokevirtual 133, 3) := by decide +kernel
theorem dX0_rightReading_50 : decode cX0_rightReading 50 = .ok (.imul, 1) := by decide +kernel
theorem dX0_rightReading_51 : decode cX0_rightReading 51 = .ok (.aload_n 0, 1) := by decide +kernel
theorem dX0_rightReading_52 : decode cX0_rightReading 52 = .ok (.iload_n 2, 1) := by decide +kernel
theorem dX0_rightReading_53 : decode cX0_rightReading 53 = .ok (.aload_n 0, 1) := by decide +kernel
theorem dX0_rightReading_54 : decode cX0_rightReading 54 = .ok (.getfield 16, 3) := by decide +kernel
theorem dX0_rightReading_57 : decode cX0_rightReading 57 = .ok (.iload_n 1, 1) := by decide +kernel
theorem dX0_rightReading_58 : decode cX0_rightReading 58 = .ok (.iaload, 1) := by decide +kernel
theorem dX0_rightReading_59 : decode cX0_rightReading 59 = .ok (.invokevirtual 133, 3) := by decide +kernel
theorem dX0_rightReading_62 : decode cX0_rightReading 62 = .ok (.iadd, 1) := by decide +kernel
theorem dX0_rightReading_63 : decode cX0_rightReading 63 = .ok (.ireturn, 1) := by decide +kernel
theorem dX0_isAmbiguous_0 : decode cX0_isAmbiguous 0 = .ok (.aload_n 0, 1) := by decide +kernel
theorem dX0_isAmbiguous_1 : decode cX0_isAmbiguous 1 = .ok (.iload_n 1, 1) := by decide +kernel
theorem dX0_isAmbiguous_2 : decode cX0_isAmbiguous 2 = .ok (.invokevirtual 72, 3) := by decide +kernel
theorem dX0_isAmbiguous_5 : decode cX0_isAmbiguous 5 = .ok (.aload_n 0, 1) := by decide +kernel
theorem dX0_isAmbiguous_6 : decode cX0_isAmbiguous 6 = .ok (.getfield 19, 3) := by decide +kernel
theorem dX0_isAmbiguous_9 : decode cX0_isAmbiguous 9 = .ok (.iload_n 1, 1) := by decide +kernel
theorem dX0_isAmbiguous_10 : decode cX0_isAmbiguous 10 = .ok (.baload, 1) := by decide +kernel
theorem dX0_isAmbiguous_11 : decode cX0_isAmbiguous 11 = .ok (.ifCond .ne 16, 3) := by decide +kernel
theorem dX0_isAmbiguous_14 : decode cX0_isAmbiguous 14 = .ok (.aload_n 0, 1) := by decide +kernel
theorem dX0_isAmbiguous_15 : decode cX0_isAmbiguous 15 = .ok (.iload_n 1, 1) := by decide +kernel
theorem dX0_isAmbiguous_16 : decode cX0_isAmbiguous 16 = .ok (.invokevirtual 136, 3) := by decide +kernel
theorem dX0_isAmbiguous_19 : decode cX0_isAmbiguous 19 = .ok (.iconst 1, 1) := by decide +kernel
theorem dX0_isAmbiguous_20 : decode cX0_isAmbiguous 20 = .ok (.if_icmp .le 7, 3) := by decide +kernel
theorem dX0_isAmbiguous_23 : decode cX0_isAmbiguous 23 = .ok (.iconst 1, 1) := by decide +kernel
theorem dX0_isAmbiguous_24 : decode cX0_isAmbiguous 24 = .ok (.goto 4, 3) := by decide +kernel
theorem dX0_isAmbiguous_27 : decode cX0_isAmbiguous 27 = .ok (.iconst 0, 1) := by decide +kernel
theorem dX0_isAmbiguous_28 : decode cX0_isAmbiguous 28 = .ok (.ireturn, 1) := by decide +kernel
theorem dX0_isMended_0 : decode cX0_isMended 0 = .ok (.aload_n 0, 1) := by decide +kernel
theorem dX0_isMended_1 : decode cX0_isMended 1 = .ok (.iload_n 1, 1) := by decide +kernel
theorem dX0_isMended_2 : decode cX0_isMended 2 = .ok (.invokevirtual 72, 3) := by decide +kernel
theorem dX0_isMended_5 : decode cX0_isMended 5 = .ok (.aload_n 0, 1) := by decide +kernel
theorem dX0_isMended_6 : decode cX0_isMended 6 = .ok (.getfield 19, 3) := by decide +kernel
theorem dX0_isMended_9 : decode cX0_isMended 9 = .ok (.iload_n 1, 1) := by decide +kernel
theorem dX0_isMended_10 : decode cX0_isMended 10 = .ok (.baload, 1) := by decide +kernel
theorem dX0_isMended_11 : decode cX0_isMended 11 = .ok (.ireturn, 1) := by decide +kernel
theorem dX0_mend_0 : decode cX0_mend 0 = .ok (.aload_n 0, 1) := by decide +kernel
theorem dX0_mend_1 : decode cX0_mend 1 = .ok (.iload_n 1, 1) := by decide +kernel
theorem dX0_mend_2 : decode cX0_mend 2 = .ok (.invokevirtual 72, 3) := by decide +kernel
theorem dX0_mend_5 : decode cX0_mend 5 = .ok (.aload_n 0, 1) := by decide +kernel
theorem dX0_mend_6 : decode cX0_mend 6 = .ok (.iload_n 1, 1) := by decide +kernel
theorem dX0_mend_7 : decode cX0_mend 7 = .ok (.invokevirtual 139, 3) := by decide +kernel
theorem dX0_mend_10 : decode cX0_mend 10 = .ok (.ifCond .ne 13, 3) := by decide +kernel
theorem dX0_mend_13 : decode cX0_mend 13 = .ok (.new 62, 3) := by decide +kernel
theorem dX0_mend_16 : decode cX0_mend 16 = .ok (.dup, 1) := by decide +kernel
theorem dX0_mend_17 : decode cX0_mend 17 = .ok (.ldc 142, 2) := by decide +kernel
theorem dX0_mend_19 : decode cX0_mend 19 = .ok (.invokespecial 66, 3) := by decide +kernel
theorem dX0_mend_22 : decode cX0_mend 22 = .ok (.athrow, 1) := by decide +kernel
theorem dX0_mend_23 : decode cX0_mend 23 = .ok (.aload_n 0, 1) := by decide +kernel
theorem dX0_mend_24 : decode cX0_mend 24 = .ok (.getfield 19, 3) := by decide +kernel
theorem dX0_mend_27 : decode cX0_mend 27 = .ok (.iload_n 1, 1) := by decide +kernel
theorem dX0_mend_28 : decode cX0_mend 28 = .ok (.iconst 1, 1) := by decide +kernel
theorem dX0_mend_29 : decode cX0_mend 29 = .ok (.bastore, 1) := by decide +kernel
theorem dX0_mend_30 : decode cX0_mend 30 = .ok (.aload_n 0, 1) := by decide +kernel
theorem dX0_mend_31 : decode cX0_mend 31 = .ok (.iload_n 1, 1) := by decide +kernel
theorem dX0_mend_32 : decode cX0_mend 32 = .ok (.invokevirtual 144, 3) := by decide +kernel
theorem dX0_mend_35 : decode cX0_mend 35 = .ok (.ireturn, 1) := by decide +kernel
theorem dX0_mendTo_0 : decode cX0_mendTo 0 = .ok (.iload_n 1, 1) := by decide +kernel
theorem dX0_mendTo_1 : decode cX0_mendTo 1 = .ok (.iconst 1, 1) := by decide +kernel
theorem dX0_mendTo_2 : decode cX0_mendTo 2 = .ok (.if_icmp .lt 9, 3) := by decide +kernel
theorem dX0_mendTo_5 : decode cX0_mendTo 5 = .ok (.iload_n 1, 1) := by decide +kernel
theorem dX0_mendTo_6 : decode cX0_mendTo 6 = .ok (.ldc 147, 2) := by decide +kernel
theorem dX0_mendTo_8 : decode cX0_mendTo 8 = .ok (.if_icmp .le 13, 3) := by decide +kernel
theorem dX0_mendTo_11 : decode cX0_mendTo 11 = .ok (.new 46, 3) := by decide +kernel
theorem dX0_mendTo_14 : decode cX0_mendTo 14 = .ok (.dup, 1) := by decide +kernel
theorem dX0_mendTo_15 : decode cX0_mendTo 15 = .ok (.ldc 148, 2) := by decide +kernel
theorem dX0_mendTo_17 : decode cX0_mendTo 17 = .ok (.invokespecial 50, 3) := by decide +kernel
theorem dX0_mendTo_20 : decode cX0_mendTo 20 = .ok (.athrow, 1) := by decide +kernel
theorem dX0_mendTo_21 : decode cX0_mendTo 21 = .ok (.iconst 0, 1) := by decide +kernel
theorem dX0_mendTo_22 : decode cX0_mendTo 22 = .ok (.istore_n 2, 1) := by decide +kernel
theorem dX0_mendTo_23 : decode cX0_mendTo 23 = .ok (.iload_n 2, 1) := by decide +kernel
theorem dX0_mendTo_24 : decode cX0_mendTo 24 = .ok (.aload_n 0, 1) := by decide +kernel
theorem dX0_mendTo_25 : decode cX0_mendTo 25 = .ok (.getfield 59, 3) := by decide +kernel
theorem dX0_mendTo_28 : decode cX0_mendTo 28 = .ok (.if_icmp .ge 37, 3) := by decide +kernel
theorem dX0_mendTo_31 : decode cX0_mendTo 31 = .ok (.aload_n 0, 1) := by decide +kernel
theorem dX0_mendTo_32 : decode cX0_mendTo 32 = .ok (.invokevirtual 150, 3) := by decide +kernel
theorem dX0_mendTo_35 : decode cX0_mendTo 35 = .ok (.iload_n 1, 1) := by decide +kernel
theorem dX0_mendTo_36 : decode cX0_mendTo 36 = .ok (.i2l, 1) := by decide +kernel
theorem dX0_mendTo_37 : decode cX0_mendTo 37 = .ok (.lcmp, 1) := by decide +kernel
theorem dX0_mendTo_38 : decode cX0_mendTo 38 = .ok (.ifCond .le 27, 3) := by decide +kernel
theorem dX0_mendTo_41 : decode cX0_mendTo 41 = .ok (.aload_n 0, 1) := by decide +kernel
theorem dX0_mendTo_42 : decode cX0_mendTo 42 = .ok (.invokevirtual 154, 3) := by decide +kernel
theorem dX0_mendTo_45 : decode cX0_mendTo 45 = .ok (.istore_n 3, 1) := by decide +kernel
theorem dX0_mendTo_46 : decode cX0_mendTo 46 = .ok (.iload_n 3, 1) := by decide +kernel
theorem dX0_mendTo_47 : decode cX0_mendTo 47 = .ok (.ifCond .ge 5, 3) := by decide +kernel
theorem dX0_mendTo_50 : decode cX0_mendTo 50 = .ok (.iload_n 2, 1) := by decide +kernel
theorem dX0_mendTo_51 : decode cX0_mendTo 51 = .ok (.ireturn, 1) := by decide +kernel
theorem dX0_mendTo_52 : decode cX0_mendTo 52 = .ok (.aload_n 0, 1) := by decide +kernel
theorem dX0_mendTo_53 : decode cX0_mendTo 53 = .ok (.getfield 19, 3) := by decide +kernel
theorem dX0_mendTo_56 : decode cX0_mendTo 56 = .ok (.iload_n 3, 1) := by decide +kernel
theorem dX0_mendTo_57 : decode cX0_mendTo 57 = .ok (.iconst 1, 1) := by decide +kernel
theorem dX0_mendTo_58 : decode cX0_mendTo 58 = .ok (.bastore, 1) := by decide +kernel
theorem dX0_mendTo_59 : decode cX0_mendTo 59 = .ok (.iinc 2 1, 3) := by decide +kernel
theorem dX0_mendTo_62 : decode cX0_mendTo 62 = .ok (.goto (-39), 3) := by decide +kernel
theorem dX0_mendTo_65 : decode cX0_mendTo 65 = .ok (.iload_n 2, 1) := by decide +kernel
theorem dX0_mendTo_66 : decode cX0_mendTo 66 = .ok (.ireturn, 1) := by decide +kernel
theorem dX0_ambiguous_0 : decode cX0_ambiguous 0 = .ok (.iconst 0, 1) := by decide +kernel
theorem dX0_ambiguous_1 : decode cX0_ambiguous 1 = .ok (.istore_n 1, 1) := by decide +kernel
theorem dX0_ambiguous_2 : decode cX0_ambiguous 2 = .ok (.iconst 0, 1) := by decide +kernel
theorem dX0_ambiguous_3 : decode cX0_ambiguous 3 = .ok (.istore_n 2, 1) := by decide +kernel
theorem dX0_ambiguous_4 : decode cX0_ambiguous 4 = .ok (.iload_n 2, 1) := by decide +kernel
theorem dX0_ambiguous_5 : decode cX0_ambiguous 5 = .ok (.aload_n 0, 1) := by decide +kernel
theorem dX0_ambiguous_6 : decode cX0_ambiguous 6 = .ok (.getfield 59, 3) := by decide +kernel
theorem dX0_ambiguous_9 : decode cX0_ambiguous 9 = .ok (.if_icmp .ge 20, 3) := by decide +kernel
theorem dX0_ambiguous_12 : decode cX0_ambiguous 12 = .ok (.aload_n 0, 1) := by decide +kernel
theorem dX0_ambiguous_13 : decode cX0_ambiguous 13 = .ok (.iload_n 2, 1) := by decide +kernel
theorem dX0_ambiguous_14 : decode cX0_ambiguous 14 = .ok (.invokevirtual 139, 3) := by decide +kernel
theorem dX0_ambiguous_17 : decode cX0_ambiguous 17 = .ok (.ifCond .eq 6, 3) := by decide +kernel
theorem dX0_ambiguous_20 : decode cX0_ambiguous 20 = .ok (.iinc 1 1, 3) := by decide +kernel
theorem dX0_ambiguous_23 : decode cX0_ambiguous 23 = .ok (.iinc 2 1, 3) := by decide +kernel
theorem dX0_ambiguous_26 : decode cX0_ambiguous 26 = .ok (.goto (-22), 3) := by decide +kernel
theorem dX0_ambiguous_29 : decode cX0_ambiguous 29 = .ok (.iload_n 1, 1) := by decide +kernel
theorem dX0_ambiguous_30 : decode cX0_ambiguous 30 = .ok (.ireturn, 1) := by decide +kernel
theorem dX0_ways_0 : decode cX0_ways 0 = .ok (.lconst 1, 1) := by decide +kernel
theorem dX0_ways_1 : decode cX0_ways 1 = .ok (.lstore_n 1, 1) := by decide +kernel
theorem dX0_ways_2 : decode cX0_ways 2 = .ok (.iconst 0, 1) := by decide +kernel
theorem dX0_ways_3 : decode cX0_ways 3 = .ok (.istore_n 3, 1) := by decide +kernel
theorem dX0_ways_4 : decode cX0_ways 4 = .ok (.iload_n 3, 1) := by decide +kernel
theorem dX0_ways_5 : decode cX0_ways 5 = .ok (.aload_n 0, 1) := by decide +kernel
theorem dX0_ways_6 : decode cX0_ways 6 = .ok (.getfield 59, 3) := by decide +kernel
theorem dX0_ways_9 : decode cX0_ways 9 = .ok (.if_icmp .ge 32, 3) := by decide +kernel
theorem dX0_ways_12 : decode cX0_ways 12 = .ok (.aload_n 0, 1) := by decide +kernel
theorem dX0_ways_13 : decode cX0_ways 13 = .ok (.iload_n 3, 1) := by decide +kernel
theorem dX0_ways_14 : decode cX0_ways 14 = .ok (.invokevirtual 139, 3) := by decide +kernel
theorem dX0_ways_17 : decode cX0_ways 17 = .ok (.ifCond .eq 18, 3) := by decide +kernel
theorem dX0_ways_20 : decode cX0_ways 20 = .ok (.lload_n 1, 1) := by decide +kernel
theorem dX0_ways_21 : decode cX0_ways 21 = .ok (.aload_n 0, 1) := by decide +kernel
theorem dX0_ways_22 : decode cX0_ways 22 = .ok (.iload_n 3, 1) := by decide +kernel
theorem dX0_ways_23 : decode cX0_ways 23 = .ok (.invokevirtual 136, 3) := by decide +kernel
theorem dX0_ways_26 : decode cX0_ways 26 = .ok (.i2l, 1) := by decide +kernel
theorem dX0_ways_27 : decode cX0_ways 27 = .ok (.lmul, 1) := by decide +kernel
theorem dX0_ways_28 : decode cX0_ways 28 = .ok (.ldc2_w 157, 3) := by decide +kernel
theorem dX0_ways_31 : decode cX0_ways 31 = .ok (.invokestatic 159, 3) := by decide +kernel
theorem dX0_ways_34 : decode cX0_ways 34 = .ok (.lstore_n 1, 1) := by decide +kernel
theorem dX0_ways_35 : decode cX0_ways 35 = .ok (.iinc 3 1, 3) := by decide +kernel
theorem dX0_ways_38 : decode cX0_ways 38 = .ok (.goto (-34), 3) := by decide +kernel
theorem dX0_ways_41 : decode cX0_ways 41 = .ok (.lload_n 1, 1) := by decide +kernel
theorem dX0_ways_42 : decode cX0_ways 42 = .ok (.lreturn, 1) := by decide +kernel
theorem dX0_firstAmbiguous_0 : decode cX0_firstAmbiguous 0 = .ok (.iconst 0, 1) := by decide +kernel
theorem dX0_firstAmbiguous_1 : decode cX0_firstAmbiguous 1 = .ok (.istore_n 1, 1) := by decide +kernel
theorem dX0_firstAmbiguous_2 : decode cX0_firstAmbiguous 2 = .ok (.iload_n 1, 1) := by decide +kernel
theorem dX0_firstAmbiguous_3 : decode cX0_firstAmbiguous 3 = .ok (.aload_n 0, 1) := by decide +kernel
theorem dX0_firstAmbiguous_4 : decode cX0_firstAmbiguous 4 = .ok (.getfield 59, 3) := by decide +kernel
theorem dX0_firstAmbiguous_7 : decode cX0_firstAmbiguous 7 = .ok (.if_icmp .ge 19, 3) := by decide +kernel
theorem dX0_firstAmbiguous_10 : decode cX0_firstAmbiguous 10 = .ok (.aload_n 0, 1) := by decide +kernel
theorem dX0_firstAmbiguous_11 : decode cX0_firstAmbiguous 11 = .ok (.iload_n 1, 1) := by decide +kernel
theorem dX0_firstAmbiguous_12 : decode cX0_firstAmbiguous 12 = .ok (.invokevirtual 139, 3) := by decide +kernel
theorem dX0_firstAmbiguous_15 : decode cX0_firstAmbiguous 15 = .ok (.ifCond .eq 5, 3) := by decide +kernel
theorem dX0_firstAmbiguous_18 : decode cX0_firstAmbiguous 18 = .ok (.iload_n 1, 1) := by decide +kernel
theorem dX0_firstAmbiguous_19 : decode cX0_firstAmbiguous 19 = .ok (.ireturn, 1) := by decide +kernel
theorem dX0_firstAmbiguous_20 : decode cX0_firstAmbiguous 20 = .ok (.iinc 1 1, 3) := by decide +kernel
theorem dX0_firstAmbiguous_23 : decode cX0_firstAmbiguous 23 = .ok (.goto (-21), 3) := by decide +kernel
theorem dX0_firstAmbiguous_26 : decode cX0_firstAmbiguous 26 = .ok (.iconst (-1), 1) := by decide +kernel
theorem dX0_firstAmbiguous_27 : decode cX0_firstAmbiguous 27 = .ok (.ireturn, 1) := by decide +kernel
theorem dX0_ambiguousWith_0 : decode cX0_ambiguousWith 0 = .ok (.iload_n 1, 1) := by decide +kernel
theorem dX0_ambiguousWith_1 : decode cX0_ambiguousWith 1 = .ok (.invokestatic 78, 3) := by decide +kernel
theorem dX0_ambiguousWith_4 : decode cX0_ambiguousWith 4 = .ok (.iload_n 2, 1) := by decide +kernel
theorem dX0_ambiguousWith_5 : decode cX0_ambiguousWith 5 = .ok (.invokestatic 126, 3) := by decide +kernel
theorem dX0_ambiguousWith_8 : decode cX0_ambiguousWith 8 = .ok (.aload_n 0, 1) := by decide +kernel
theorem dX0_ambiguousWith_9 : decode cX0_ambiguousWith 9 = .ok (.aload_n 0, 1) := by decide +kernel
theorem dX0_ambiguousWith_10 : decode cX0_ambiguousWith 10 = .ok (.getfield 38, 3) := by decide +kernel
theorem dX0_ambiguousWith_13 : decode cX0_ambiguousWith 13 = .ok (.iload_n 1, 1) := by decide +kernel
theorem dX0_ambiguousWith_14 : decode cX0_ambiguousWith 14 = .ok (.iload_n 2, 1) := by decide +kernel
theorem dX0_ambiguousWith_15 : decode cX0_ambiguousWith 15 = .ok (.invokevirtual 162, 3) := by decide +kernel
theorem dX0_ambiguousWith_18 : decode cX0_ambiguousWith 18 = .ok (.ireturn, 1) := by decide +kernel
theorem dX0_bestWord_0 : decode cX0_bestWord 0 = .ok (.iload_n 1, 1) := by decide +kernel
theorem dX0_bestWord_1 : decode cX0_bestWord 1 = .ok (.invokestatic 78, 3) := by decide +kernel
theorem dX0_bestWord_4 : decode cX0_bestWord 4 = .ok (.iconst 0, 1) := by decide +kernel
theorem dX0_bestWord_5 : decode cX0_bestWord 5 = .ok (.istore_n 2, 1) := by decide +kernel
theorem dX0_bestWord_6 : decode cX0_bestWord 6 = .ok (.aload_n 0, 1) := by decide +kernel
theorem dX0_bestWord_7 : decode cX0_bestWord 7 = .ok (.aload_n 0, 1) := by decide +kernel
theorem dX0_bestWord_8 : decode cX0_bestWord 8 = .ok (.getfield 38, 3) := by decide +kernel
theorem dX0_bestWord_11 : decode cX0_bestWord 11 = .ok (.iload_n 1, 1) := by decide +kernel
theorem dX0_bestWord_12 : decode cX0_bestWord 12 = .ok (.iconst 0, 1) := by decide +kernel
theorem dX0_bestWord_13 : decode cX0_bestWord 13 = .ok (.invokevirtual 162, 3) := by decide +kernel
theorem dX0_bestWord_16 : decode cX0_bestWord 16 = .ok (.istore_n 3, 1) := by decide +kernel
theorem dX0_bestWord_17 : decode cX0_bestWord 17 = .ok (.iconst 1, 1) := by decide +kernel
theorem dX0_bestWord_18 : decode cX0_bestWord 18 = .ok (.istore 4, 2) := by decide +kernel
theorem dX0_bestWord_20 : decode cX0_bestWord 20 = .ok (.iload 4, 2) := by decide +kernel
theorem dX0_bestWord_22 : decode cX0_bestWord 22 = .ok (.bipush 10, 2) := by decide +kernel
theorem dX0_bestWord_24 : decode cX0_bestWord 24 = .ok (.if_icmp .ge 34, 3) := by decide +kernel
theorem dX0_bestWord_27 : decode cX0_bestWord 27 = .ok (.aload_n 0, 1) := by decide +kernel
theorem dX0_bestWord_28 : decode cX0_bestWord 28 = .ok (.aload_n 0, 1) := by decide +kernel
theorem dX0_bestWord_29 : decode cX0_bestWord 29 = .ok (.getfield 38, 3) := by decide +kernel
theorem dX0_bestWord_32 : decode cX0_bestWord 32 = .ok (.iload_n 1, 1) := by decide +kernel
theorem dX0_bestWord_33 : decode cX0_bestWord 33 = .ok (.iload 4, 2) := by decide +kernel
theorem dX0_bestWord_35 : decode cX0_bestWord 35 = .ok (.invokevirtual 162, 3) := by decide +kernel
theorem dX0_bestWord_38 : decode cX0_bestWord 38 = .ok (.istore 5, 2) := by decide +kernel
theorem dX0_bestWord_40 : decode cX0_bestWord 40 = .ok (.iload 5, 2) := by decide +kernel
theorem dX0_bestWord_42 : decode cX0_bestWord 42 = .ok (.iload_n 3, 1) := by decide +kernel
theorem dX0_bestWord_43 : decode cX0_bestWord 43 = .ok (.if_icmp .ge 9, 3) := by decide +kernel
theorem dX0_bestWord_46 : decode cX0_bestWord 46 = .ok (.iload 5, 2) := by decide +kernel
theorem dX0_bestWord_48 : decode cX0_bestWord 48 = .ok (.istore_n 3, 1) := by decide +kernel
theorem dX0_bestWord_49 : decode cX0_bestWord 49 = .ok (.iload 4, 2) := by decide +kernel
theorem dX0_bestWord_51 : decode cX0_bestWord 51 = .ok (.istore_n 2, 1) := by decide +kernel
theorem dX0_bestWord_52 : decode cX0_bestWord 52 = .ok (.iinc 4 1, 3) := by decide +kernel
theorem dX0_bestWord_55 : decode cX0_bestWord 55 = .ok (.goto (-35), 3) := by decide +kernel
theorem dX0_bestWord_58 : decode cX0_bestWord 58 = .ok (.iload_n 2, 1) := by decide +kernel
theorem dX0_bestWord_59 : decode cX0_bestWord 59 = .ok (.ireturn, 1) := by decide +kernel
theorem dX0_bestStep_0 : decode cX0_bestStep 0 = .ok (.iconst 1, 1) := by decide +kernel
theorem dX0_bestStep_1 : decode cX0_bestStep 1 = .ok (.istore_n 1, 1) := by decide +kernel
theorem dX0_bestStep_2 : decode cX0_bestStep 2 = .ok (.aload_n 0, 1) := by decide +kernel
theorem dX0_bestStep_3 : decode cX0_bestStep 3 = .ok (.iconst 1, 1) := by decide +kernel
theorem dX0_bestStep_4 : decode cX0_bestStep 4 = .ok (.iconst 0, 1) := by decide +kernel
theorem dX0_bestStep_5 : decode cX0_bestStep 5 = .ok (.aload_n 0, 1) := by decide +kernel
theorem dX0_bestStep_6 : decode cX0_bestStep 6 = .ok (.getfield 23, 3) := by decide +kernel
theorem dX0_bestStep_9 : decode cX0_bestStep 9 = .ok (.iconst 0, 1) := by decide +kernel
theorem dX0_bestStep_10 : decode cX0_bestStep 10 = .ok (.iaload, 1) := by decide +kernel
theorem dX0_bestStep_11 : decode cX0_bestStep 11 = .ok (.invokevirtual 162, 3) := by decide +kernel
theorem dX0_bestStep_14 : decode cX0_bestStep 14 = .ok (.istore_n 2, 1) := by decide +kernel
theorem dX0_bestStep_15 : decode cX0_bestStep 15 = .ok (.iconst 2, 1) := by decide +kernel
theorem dX0_bestStep_16 : decode cX0_bestStep 16 = .ok (.istore_n 3, 1) := by decide +kernel
theorem dX0_bestStep_17 : decode cX0_bestStep 17 = .ok (.iload_n 3, 1) := by decide +kernel
theorem dX0_bestStep_18 : decode cX0_bestStep 18 = .ok (.iconst 4, 1) := by decide +kernel
theorem dX0_bestStep_19 : decode cX0_bestStep 19 = .ok (.if_icmp .gt 34, 3) := by decide +kernel
theorem dX0_bestStep_22 : decode cX0_bestStep 22 = .ok (.aload_n 0, 1) := by decide +kernel
theorem dX0_bestStep_23 : decode cX0_bestStep 23 = .ok (.iload_n 3, 1) := by decide +kernel
theorem dX0_bestStep_24 : decode cX0_bestStep 24 = .ok (.iconst 0, 1) := by decide +kernel
theorem dX0_bestStep_25 : decode cX0_bestStep 25 = .ok (.aload_n 0, 1) := by decide +kernel
theorem dX0_bestStep_26 : decode cX0_bestStep 26 = .ok (.getfield 23, 3) := by decide +kernel
theorem dX0_bestStep_29 : decode cX0_bestStep 29 = .ok (.iconst 0, 1) := by decide +kernel
theorem dX0_bestStep_30 : decode cX0_bestStep 30 = .ok (.iaload, 1) := by decide +kernel
theorem dX0_bestStep_31 : decode cX0_bestStep 31 = .ok (.invokevirtual 162, 3) := by decide +kernel
theorem dX0_bestStep_34 : decode cX0_bestStep 34 = .ok (.istore 4, 2) := by decide +kernel
theorem dX0_bestStep_36 : decode cX0_bestStep 36 = .ok (.iload 4, 2) := by decide +kernel
theorem dX0_bestStep_38 : decode cX0_bestStep 38 = .ok (.iload_n 2, 1) := by decide +kernel
theorem dX0_bestStep_39 : decode cX0_bestStep 39 = .ok (.if_icmp .ge 8, 3) := by decide +kernel
theorem dX0_bestStep_42 : decode cX0_bestStep 42 = .ok (.iload 4, 2) := by decide +kernel
theorem dX0_bestStep_44 : decode cX0_bestStep 44 = .ok (.istore_n 2, 1) := by decide +kernel
theorem dX0_bestStep_45 : decode cX0_bestStep 45 = .ok (.iload_n 3, 1) := by decide +kernel
theorem dX0_bestStep_46 : decode cX0_bestStep 46 = .ok (.istore_n 1, 1) := by decide +kernel
theorem dX0_bestStep_47 : decode cX0_bestStep 47 = .ok (.iinc 3 1, 3) := by decide +kernel
theorem dX0_bestStep_50 : decode cX0_bestStep 50 = .ok (.goto (-33), 3) := by decide +kernel
theorem dX0_bestStep_53 : decode cX0_bestStep 53 = .ok (.iload_n 1, 1) := by decide +kernel
theorem dX0_bestStep_54 : decode cX0_bestStep 54 = .ok (.ireturn, 1) := by decide +kernel
theorem dX0_meanNote_0 : decode cX0_meanNote 0 = .ok (.aload_n 0, 1) := by decide +kernel
theorem dX0_meanNote_1 : decode cX0_meanNote 1 = .ok (.getfield 59, 3) := by decide +kernel
theorem dX0_meanNote_4 : decode cX0_meanNote 4 = .ok (.ifCond .gt 5, 3) := by decide +kernel
theorem dX0_meanNote_7 : decode cX0_meanNote 7 = .ok (.dconst 0, 1) := by decide +kernel
theorem dX0_meanNote_8 : decode cX0_meanNote 8 = .ok (.dreturn, 1) := by decide +kernel
theorem dX0_meanNote_9 : decode cX0_meanNote 9 = .ok (.iconst 0, 1) := by decide +kernel
theorem dX0_meanNote_10 : decode cX0_meanNote 10 = .ok (.istore_n 1, 1) := by decide +kernel
theorem dX0_meanNote_11 : decode cX0_meanNote 11 = .ok (.iconst 0, 1) := by decide +kernel
theorem dX0_meanNote_12 : decode cX0_meanNote 12 = .ok (.istore_n 2, 1) := by decide +kernel
theorem dX0_meanNote_13 : decode cX0_meanNote 13 = .ok (.iload_n 2, 1) := by decide +kernel
theorem dX0_meanNote_14 : decode cX0_meanNote 14 = .ok (.aload_n 0, 1) := by decide +kernel
theorem dX0_meanNote_15 : decode cX0_meanNote 15 = .ok (.getfield 59, 3) := by decide +kernel
theorem dX0_meanNote_18 : decode cX0_meanNote 18 = .ok (.if_icmp .ge 18, 3) := by decide +kernel
theorem dX0_meanNote_21 : decode cX0_meanNote 21 = .ok (.iload_n 1, 1) := by decide +kernel
theorem dX0_meanNote_22 : decode cX0_meanNote 22 = .ok (.aload_n 0, 1) := by decide +kernel
theorem dX0_meanNote_23 : decode cX0_meanNote 23 = .ok (.getfield 35, 3) := by decide +kernel
theorem dX0_meanNote_26 : decode cX0_meanNote 26 = .ok (.iload_n 2, 1) := by decide +kernel
theorem dX0_meanNote_27 : decode cX0_meanNote 27 = .ok (.iaload, 1) := by decide +kernel
theorem dX0_meanNote_28 : decode cX0_meanNote 28 = .ok (.iadd, 1) := by decide +kernel
theorem dX0_meanNote_29 : decode cX0_meanNote 29 = .ok (.istore_n 1, 1) := by decide +kernel
theorem dX0_meanNote_30 : decode cX0_meanNote 30 = .ok (.iinc 2 1, 3) := by decide +kernel
theorem dX0_meanNote_33 : decode cX0_meanNote 33 = .ok (.goto (-20), 3) := by decide +kernel
theorem dX0_meanNote_36 : decode cX0_meanNote 36 = .ok (.iload_n 1, 1) := by decide +kernel
theorem dX0_meanNote_37 : decode cX0_meanNote 37 = .ok (.i2d, 1) := by decide +kernel
theorem dX0_meanNote_38 : decode cX0_meanNote 38 = .ok (.aload_n 0, 1) := by decide +kernel
theorem dX0_meanNote_39 : decode cX0_meanNote 39 = .ok (.getfield 59, 3) := by decide +kernel
theorem dX0_meanNote_42 : decode cX0_meanNote 42 = .ok (.i2d, 1) := by decide +kernel
theorem dX0_meanNote_43 : decode cX0_meanNote 43 = .ok (.ddiv, 1) := by decide +kernel
theorem dX0_meanNote_44 : decode cX0_meanNote 44 = .ok (.dreturn, 1) := by decide +kernel
theorem dX0_digest_0 : decode cX0_digest 0 = .ok (.ldc2_w 166, 3) := by decide +kernel
theorem dX0_digest_3 : decode cX0_digest 3 = .ok (.lstore_n 1, 1) := by decide +kernel
theorem dX0_digest_4 : decode cX0_digest 4 = .ok (.lload_n 1, 1) := by decide +kernel
theorem dX0_digest_5 : decode cX0_digest 5 = .ok (.aload_n 0, 1) := by decide +kernel
theorem dX0_digest_6 : decode cX0_digest 6 = .ok (.invokevirtual 168, 3) := by decide +kernel
theorem dX0_digest_9 : decode cX0_digest 9 = .ok (.i2l, 1) := by decide +kernel
theorem dX0_digest_10 : decode cX0_digest 10 = .ok (.invokestatic 171, 3) := by decide +kernel
theorem dX0_digest_13 : decode cX0_digest 13 = .ok (.lstore_n 1, 1) := by decide +kernel
theorem dX0_digest_14 : decode cX0_digest 14 = .ok (.lload_n 1, 1) := by decide +kernel
theorem dX0_digest_15 : decode cX0_digest 15 = .ok (.aload_n 0, 1) := by decide +kernel
theorem dX0_digest_16 : decode cX0_digest 16 = .ok (.invokevirtual 174, 3) := by decide +kernel
theorem dX0_digest_19 : decode cX0_digest 19 = .ok (.i2l, 1) := by decide +kernel
theorem dX0_digest_20 : decode cX0_digest 20 = .ok (.invokestatic 171, 3) := by decide +kernel
theorem dX0_digest_23 : decode cX0_digest 23 = .ok (.lstore_n 1, 1) := by decide +kernel
theorem dX0_digest_24 : decode cX0_digest 24 = .ok (.lload_n 1, 1) := by decide +kernel
theorem dX0_digest_25 : decode cX0_digest 25 = .ok (.aload_n 0, 1) := by decide +kernel
theorem dX0_digest_26 : decode cX0_digest 26 = .ok (.invokevirtual 95, 3) := by decide +kernel
theorem dX0_digest_29 : decode cX0_digest 29 = .ok (.i2l, 1) := by decide +kernel
theorem dX0_digest_30 : decode cX0_digest 30 = .ok (.invokestatic 171, 3) := by decide +kernel
theorem dX0_digest_33 : decode cX0_digest 33 = .ok (.lstore_n 1, 1) := by decide +kernel
theorem dX0_digest_34 : decode cX0_digest 34 = .ok (.lload_n 1, 1) := by decide +kernel
theorem dX0_digest_35 : decode cX0_digest 35 = .ok (.aload_n 0, 1) := by decide +kernel
theorem dX0_digest_36 : decode cX0_digest 36 = .ok (.invokevirtual 104, 3) := by decide +kernel
theorem dX0_digest_39 : decode cX0_digest 39 = .ok (.i2l, 1) := by decide +kernel
theorem dX0_digest_40 : decode cX0_digest 40 = .ok (.invokestatic 171, 3) := by decide +kernel
theorem dX0_digest_43 : decode cX0_digest 43 = .ok (.lstore_n 1, 1) := by decide +kernel
theorem dX0_digest_44 : decode cX0_digest 44 = .ok (.lload_n 1, 1) := by decide +kernel
theorem dX0_digest_45 : decode cX0_digest 45 = .ok (.aload_n 0, 1) := by decide +kernel
theorem dX0_digest_46 : decode cX0_digest 46 = .ok (.invokevirtual 177, 3) := by decide +kernel
theorem dX0_digest_49 : decode cX0_digest 49 = .ok (.i2l, 1) := by decide +kernel
theorem dX0_digest_50 : decode cX0_digest 50 = .ok (.invokestatic 171, 3) := by decide +kernel
theorem dX0_digest_53 : decode cX0_digest 53 = .ok (.lstore_n 1, 1) := by decide +kernel
theorem dX0_digest_54 : decode cX0_digest 54 = .ok (.lload_n 1, 1) := by decide +kernel
theorem dX0_digest_55 : decode cX0_digest 55 = .ok (.aload_n 0, 1) := by decide +kernel
theorem dX0_digest_56 : decode cX0_digest 56 = .ok (.invokevirtual 180, 3) := by decide +kernel
theorem dX0_digest_59 : decode cX0_digest 59 = .ok (.i2l, 1) := by decide +kernel
theorem dX0_digest_60 : decode cX0_digest 60 = .ok (.invokestatic 171, 3) := by decide +kernel
theorem dX0_digest_63 : decode cX0_digest 63 = .ok (.lstore_n 1, 1) := by decide +kernel
theorem dX0_digest_64 : decode cX0_digest 64 = .ok (.lload_n 1, 1) := by decide +kernel
theorem dX0_digest_65 : decode cX0_digest 65 = .ok (.aload_n 0, 1) := by decide +kernel
theorem dX0_digest_66 : decode cX0_digest 66 = .ok (.invokevirtual 183, 3) := by decide +kernel
theorem dX0_digest_69 : decode cX0_digest 69 = .ok (.i2l, 1) := by decide +kernel
theorem dX0_digest_70 : decode cX0_digest 70 = .ok (.invokestatic 171, 3) := by decide +kernel
theorem dX0_digest_73 : decode cX0_digest 73 = .ok (.lstore_n 1, 1) := by decide +kernel
theorem dX0_digest_74 : decode cX0_digest 74 = .ok (.lload_n 1, 1) := by decide +kernel
theorem dX0_digest_75 : decode cX0_digest 75 = .ok (.aload_n 0, 1) := by decide +kernel
theorem dX0_digest_76 : decode cX0_digest 76 = .ok (.invokevirtual 186, 3) := by decide +kernel
theorem dX0_digest_79 : decode cX0_digest 79 = .ok (.i2l, 1) := by decide +kernel
theorem dX0_digest_80 : decode cX0_digest 80 = .ok (.invokestatic 171, 3) := by decide +kernel
theorem dX0_digest_83 : decode cX0_digest 83 = .ok (.lstore_n 1, 1) := by decide +kernel
theorem dX0_digest_84 : decode cX0_digest 84 = .ok (.lload_n 1, 1) := by decide +kernel
theorem dX0_digest_85 : decode cX0_digest 85 = .ok (.aload_n 0, 1) := by decide +kernel
theorem dX0_digest_86 : decode cX0_digest 86 = .ok (.invokevirtual 189, 3) := by decide +kernel
theorem dX0_digest_89 : decode cX0_digest 89 = .ok (.i2l, 1) := by decide +kernel
theorem dX0_digest_90 : decode cX0_digest 90 = .ok (.invokestatic 171, 3) := by decide +kernel
theorem dX0_digest_93 : decode cX0_digest 93 = .ok (.lstore_n 1, 1) := by decide +kernel
theorem dX0_digest_94 : decode cX0_digest 94 = .ok (.lload_n 1, 1) := by decide +kernel
theorem dX0_digest_95 : decode cX0_digest 95 = .ok (.aload_n 0, 1) := by decide +kernel
theorem dX0_digest_96 : decode cX0_digest 96 = .ok (.invokevirtual 192, 3) := by decide +kernel
theorem dX0_digest_99 : decode cX0_digest 99 = .ok (.i2l, 1) := by decide +kernel
theorem dX0_digest_100 : decode cX0_digest 100 = .ok (.invokestatic 171, 3) := by decide +kernel
theorem dX0_digest_103 : decode cX0_digest 103 = .ok (.lstore_n 1, 1) := by decide +kernel
theorem dX0_digest_104 : decode cX0_digest 104 = .ok (.lload_n 1, 1) := by decide +kernel
theorem dX0_digest_105 : decode cX0_digest 105 = .ok (.aload_n 0, 1) := by decide +kernel
theorem dX0_digest_106 : decode cX0_digest 106 = .ok (.invokevirtual 150, 3) := by decide +kernel
theorem dX0_digest_109 : decode cX0_digest 109 = .ok (.invokestatic 171, 3) := by decide +kernel
theorem dX0_digest_112 : decode cX0_digest 112 = .ok (.lstore_n 1, 1) := by decide +kernel
theorem dX0_digest_113 : decode cX0_digest 113 = .ok (.lload_n 1, 1) := by decide +kernel
theorem dX0_digest_114 : decode cX0_digest 114 = .ok (.aload_n 0, 1) := by decide +kernel
theorem dX0_digest_115 : decode cX0_digest 115 = .ok (.invokevirtual 195, 3) := by decide +kernel
theorem dX0_digest_118 : decode cX0_digest 118 = .ok (.i2l, 1) := by decide +kernel
theorem dX0_digest_119 : decode cX0_digest 119 = .ok (.invokestatic 171, 3) := by decide +kernel
theorem dX0_digest_122 : decode cX0_digest 122 = .ok (.lstore_n 1, 1) := by decide +kernel
theorem dX0_digest_123 : decode cX0_digest 123 = .ok (.iconst 0, 1) := by decide +kernel
theorem dX0_digest_124 : decode cX0_digest 124 = .ok (.istore_n 3, 1) := by decide +kernel
theorem dX0_digest_125 : decode cX0_digest 125 = .ok (.iload_n 3, 1) := by decide +kernel
theorem dX0_digest_126 : decode cX0_digest 126 = .ok (.aload_n 0, 1) := by decide +kernel
theorem dX0_digest_127 : decode cX0_digest 127 = .ok (.getfield 59, 3) := by decide +kernel
theorem dX0_digest_130 : decode cX0_digest 130 = .ok (.if_icmp .ge 16, 3) := by decide +kernel
theorem dX0_digest_133 : decode cX0_digest 133 = .ok (.aload_n 0, 1) := by decide +kernel
theorem dX0_digest_134 : decode cX0_digest 134 = .ok (.lload_n 1, 1) := by decide +kernel
theorem dX0_digest_135 : decode cX0_digest 135 = .ok (.iload_n 3, 1) := by decide +kernel
theorem dX0_digest_136 : decode cX0_digest 136 = .ok (.invokevirtual 198, 3) := by decide +kernel
theorem dX0_digest_139 : decode cX0_digest 139 = .ok (.lstore_n 1, 1) := by decide +kernel
theorem dX0_digest_140 : decode cX0_digest 140 = .ok (.iinc 3 1, 3) := by decide +kernel
theorem dX0_digest_143 : decode cX0_digest 143 = .ok (.goto (-18), 3) := by decide +kernel
theorem dX0_digest_146 : decode cX0_digest 146 = .ok (.iconst 0, 1) := by decide +kernel
theorem dX0_digest_147 : decode cX0_digest 147 = .ok (.istore_n 3, 1) := by decide +kernel
theorem dX0_digest_148 : decode cX0_digest 148 = .ok (.iload_n 3, 1) := by decide +kernel
theorem dX0_digest_149 : decode cX0_digest 149 = .ok (.bipush 10, 2) := by decide +kernel
theorem dX0_digest_151 : decode cX0_digest 151 = .ok (.if_icmp .ge 31, 3) := by decide +kernel
theorem dX0_digest_154 : decode cX0_digest 154 = .ok (.lload_n 1, 1) := by decide +kernel
theorem dX0_digest_155 : decode cX0_digest 155 = .ok (.aload_n 0, 1) := by decide +kernel
theorem dX0_digest_156 : decode cX0_digest 156 = .ok (.iload_n 3, 1) := by decide +kernel
theorem dX0_digest_157 : decode cX0_digest 157 = .ok (.invokevirtual 202, 3) := by decide +kernel
theorem dX0_digest_160 : decode cX0_digest 160 = .ok (.i2l, 1) := by decide +kernel
theorem dX0_digest_161 : decode cX0_digest 161 = .ok (.invokestatic 171, 3) := by decide +kernel
theorem dX0_digest_164 : decode cX0_digest 164 = .ok (.lstore_n 1, 1) := by decide +kernel
theorem dX0_digest_165 : decode cX0_digest 165 = .ok (.lload_n 1, 1) := by decide +kernel
theorem dX0_digest_166 : decode cX0_digest 166 = .ok (.aload_n 0, 1) := by decide +kernel
theorem dX0_digest_167 : decode cX0_digest 167 = .ok (.iload_n 3, 1) := by decide +kernel
theorem dX0_digest_168 : decode cX0_digest 168 = .ok (.invokevirtual 205, 3) := by decide +kernel
theorem dX0_digest_171 : decode cX0_digest 171 = .ok (.i2l, 1) := by decide +kernel
theorem dX0_digest_172 : decode cX0_digest 172 = .ok (.invokestatic 171, 3) := by decide +kernel
theorem dX0_digest_175 : decode cX0_digest 175 = .ok (.lstore_n 1, 1) := by decide +kernel
theorem dX0_digest_176 : decode cX0_digest 176 = .ok (.iinc 3 1, 3) := by decide +kernel
theorem dX0_digest_179 : decode cX0_digest 179 = .ok (.goto (-31), 3) := by decide +kernel
theorem dX0_digest_182 : decode cX0_digest 182 = .ok (.lload_n 1, 1) := by decide +kernel
theorem dX0_digest_183 : decode cX0_digest 183 = .ok (.lreturn, 1) := by decide +kernel
theorem dX0_isLandmark_0 : decode cX0_isLandmark 0 = .ok (.iload_n 0, 1) := by decide +kernel
theorem dX0_isLandmark_1 : decode cX0_isLandmark 1 = .ok (.ifCond .lt 13, 3) := by decide +kernel
theorem dX0_isLandmark_4 : decode cX0_isLandmark 4 = .ok (.iload_n 0, 1) := by decide +kernel
theorem dX0_isLandmark_5 : decode cX0_isLandmark 5 = .ok (.bipush 10, 2) := by decide +kernel
theorem dX0_isLandmark_7 : decode cX0_isLandmark 7 = .ok (.if_icmp .ge 7, 3) := by decide +kernel
theorem dX0_isLandmark_10 : decode cX0_isLandmark 10 = .ok (.iconst 1, 1) := by decide +kernel
theorem dX0_isLandmark_11 : decode cX0_isLandmark 11 = .ok (.goto 4, 3) := by decide +kernel
theorem dX0_isLandmark_14 : decode cX0_isLandmark 14 = .ok (.iconst 0, 1) := by decide +kernel
theorem dX0_isLandmark_15 : decode cX0_isLandmark 15 = .ok (.ireturn, 1) := by decide +kernel
theorem dX0_isWord_0 : decode cX0_isWord 0 = .ok (.iload_n 0, 1) := by decide +kernel
theorem dX0_isWord_1 : decode cX0_isWord 1 = .ok (.ifCond .lt 13, 3) := by decide +kernel
theorem dX0_isWord_4 : decode cX0_isWord 4 = .ok (.iload_n 0, 1) := by decide +kernel
theorem dX0_isWord_5 : decode cX0_isWord 5 = .ok (.bipush 10, 2) := by decide +kernel
theorem dX0_isWord_7 : decode cX0_isWord 7 = .ok (.if_icmp .ge 7, 3) := by decide +kernel
theorem dX0_isWord_10 : decode cX0_isWord 10 = .ok (.iconst 1, 1) := by decide +kernel
theorem dX0_isWord_11 : decode cX0_isWord 11 = .ok (.goto 4, 3) := by decide +kernel
theorem dX0_isWord_14 : decode cX0_isWord 14 = .ok (.iconst 0, 1) := by decide +kernel
theorem dX0_isWord_15 : decode cX0_isWord 15 = .ok (.ireturn, 1) := by decide +kernel
theorem dX0_checkTurn_0 : decode cX0_checkTurn 0 = .ok (.iload_n 0, 1) := by decide +kernel
theorem dX0_checkTurn_1 : decode cX0_checkTurn 1 = .ok (.bipush (-3), 2) := by decide +kernel
theorem dX0_checkTurn_3 : decode cX0_checkTurn 3 = .ok (.if_icmp .lt 8, 3) := by decide +kernel
theorem dX0_checkTurn_6 : decode cX0_checkTurn 6 = .ok (.iload_n 0, 1) := by decide +kernel
theorem dX0_checkTurn_7 : decode cX0_checkTurn 7 = .ok (.iconst 3, 1) := by decide +kernel
theorem dX0_checkTurn_8 : decode cX0_checkTurn 8 = .ok (.if_icmp .le 13, 3) := by decide +kernel
theorem dX0_checkTurn_11 : decode cX0_checkTurn 11 = .ok (.new 46, 3) := by decide +kernel
theorem dX0_checkTurn_14 : decode cX0_checkTurn 14 = .ok (.dup, 1) := by decide +kernel
theorem dX0_checkTurn_15 : decode cX0_checkTurn 15 = .ok (.ldc 208, 2) := by decide +kernel
theorem dX0_checkTurn_17 : decode cX0_checkTurn 17 = .ok (.invokespecial 50, 3) := by decide +kernel
theorem dX0_checkTurn_20 : decode cX0_checkTurn 20 = .ok (.athrow, 1) := by decide +kernel
theorem dX0_checkTurn_21 : decode cX0_checkTurn 21 = .ok (.return_, 1) := by decide +kernel
theorem dX0_checkLandmark_0 : decode cX0_checkLandmark 0 = .ok (.iload_n 0, 1) := by decide +kernel
theorem dX0_checkLandmark_1 : decode cX0_checkLandmark 1 = .ok (.invokestatic 53, 3) := by decide +kernel
theorem dX0_checkLandmark_4 : decode cX0_checkLandmark 4 = .ok (.ifCond .ne 13, 3) := by decide +kernel
theorem dX0_checkLandmark_7 : decode cX0_checkLandmark 7 = .ok (.new 210, 3) := by decide +kernel
theorem dX0_checkLandmark_10 : decode cX0_checkLandmark 10 = .ok (.dup, 1) := by decide +kernel
theorem dX0_checkLandmark_11 : decode cX0_checkLandmark 11 = .ok (.ldc 57, 2) := by decide +kernel
theorem dX0_checkLandmark_13 : decode cX0_checkLandmark 13 = .ok (.invokespecial 212, 3) := by decide +kernel
theorem dX0_checkLandmark_16 : decode cX0_checkLandmark 16 = .ok (.athrow, 1) := by decide +kernel
theorem dX0_checkLandmark_17 : decode cX0_checkLandmark 17 = .ok (.return_, 1) := by decide +kernel
theorem dX0_checkWord_0 : decode cX0_checkWord 0 = .ok (.iload_n 0, 1) := by decide +kernel
theorem dX0_checkWord_1 : decode cX0_checkWord 1 = .ok (.invokestatic 81, 3) := by decide +kernel
theorem dX0_checkWord_4 : decode cX0_checkWord 4 = .ok (.ifCond .ne 13, 3) := by decide +kernel
theorem dX0_checkWord_7 : decode cX0_checkWord 7 = .ok (.new 210, 3) := by decide +kernel
theorem dX0_checkWord_10 : decode cX0_checkWord 10 = .ok (.dup, 1) := by decide +kernel
theorem dX0_checkWord_11 : decode cX0_checkWord 11 = .ok (.ldc 84, 2) := by decide +kernel
theorem dX0_checkWord_13 : decode cX0_checkWord 13 = .ok (.invokespecial 212, 3) := by decide +kernel
theorem dX0_checkWord_16 : decode cX0_checkWord 16 = .ok (.athrow, 1) := by decide +kernel
theorem dX0_checkWord_17 : decode cX0_checkWord 17 = .ok (.return_, 1) := by decide +kernel
theorem dX0_checkLeg_0 : decode cX0_checkLeg 0 = .ok (.iload_n 1, 1) := by decide +kernel
theorem dX0_checkLeg_1 : decode cX0_checkLeg 1 = .ok (.ifCond .lt 11, 3) := by decide +kernel
theorem dX0_checkLeg_4 : decode cX0_checkLeg 4 = .ok (.iload_n 1, 1) := by decide +kernel
theorem dX0_checkLeg_5 : decode cX0_checkLeg 5 = .ok (.aload_n 0, 1) := by decide +kernel
theorem dX0_checkLeg_6 : decode cX0_checkLeg 6 = .ok (.getfield 59, 3) := by decide +kernel
theorem dX0_checkLeg_9 : decode cX0_checkLeg 9 = .ok (.if_icmp .lt 13, 3) := by decide +kernel
theorem dX0_checkLeg_12 : decode cX0_checkLeg 12 = .ok (.new 210, 3) := by decide +kernel
theorem dX0_checkLeg_15 : decode cX0_checkLeg 15 = .ok (.dup, 1) := by decide +kernel
theorem dX0_checkLeg_16 : decode cX0_checkLeg 16 = .ok (.ldc 213, 2) := by decide +kernel
theorem dX0_checkLeg_18 : decode cX0_checkLeg 18 = .ok (.invokespecial 212, 3) := by decide +kernel
theorem dX0_checkLeg_21 : decode cX0_checkLeg 21 = .ok (.athrow, 1) := by decide +kernel
theorem dX0_checkLeg_22 : decode cX0_checkLeg 22 = .ok (.return_, 1) := by decide +kernel
theorem dX0_headingAhead_0 : decode cX0_headingAhead 0 = .ok (.iload_n 1, 1) := by decide +kernel
theorem dX0_headingAhead_1 : decode cX0_headingAhead 1 = .ok (.ifCond .le 14, 3) := by decide +kernel
theorem dX0_headingAhead_4 : decode cX0_headingAhead 4 = .ok (.aload_n 0, 1) := by decide +kernel
theorem dX0_headingAhead_5 : decode cX0_headingAhead 5 = .ok (.getfield 26, 3) := by decide +kernel
theorem dX0_headingAhead_8 : decode cX0_headingAhead 8 = .ok (.iload_n 1, 1) := by decide +kernel
theorem dX0_headingAhead_9 : decode cX0_headingAhead 9 = .ok (.iconst 1, 1) := by decide +kernel
theorem dX0_headingAhead_10 : decode cX0_headingAhead 10 = .ok (.isub, 1) := by decide +kernel
theorem dX0_headingAhead_11 : decode cX0_headingAhead 11 = .ok (.iaload, 1) := by decide +kernel
theorem dX0_headingAhead_12 : decode cX0_headingAhead 12 = .ok (.goto 4, 3) := by decide +kernel
theorem dX0_headingAhead_15 : decode cX0_headingAhead 15 = .ok (.iconst 0, 1) := by decide +kernel
theorem dX0_headingAhead_16 : decode cX0_headingAhead 16 = .ok (.ireturn, 1) := by decide +kernel
theorem dX0_xAhead_0 : decode cX0_xAhead 0 = .ok (.iload_n 1, 1) := by decide +kernel
theorem dX0_xAhead_1 : decode cX0_xAhead 1 = .ok (.ifCond .le 14, 3) := by decide +kernel
theorem dX0_xAhead_4 : decode cX0_xAhead 4 = .ok (.aload_n 0, 1) := by decide +kernel
theorem dX0_xAhead_5 : decode cX0_xAhead 5 = .ok (.getfield 29, 3) := by decide +kernel
theorem dX0_xAhead_8 : decode cX0_xAhead 8 = .ok (.iload_n 1, 1) := by decide +kernel
theorem dX0_xAhead_9 : decode cX0_xAhead 9 = .ok (.iconst 1, 1) := by decide +kernel
theorem dX0_xAhead_10 : decode cX0_xAhead 10 = .ok (.isub, 1) := by decide +kernel
theorem dX0_xAhead_11 : decode cX0_xAhead 11 = .ok (.iaload, 1) := by decide +kernel
theorem dX0_xAhead_12 : decode cX0_xAhead 12 = .ok (.goto 4, 3) := by decide +kernel
theorem dX0_xAhead_15 : decode cX0_xAhead 15 = .ok (.iconst 0, 1) := by decide +kernel
theorem dX0_xAhead_16 : decode cX0_xAhead 16 = .ok (.ireturn, 1) := by decide +kernel
theorem dX0_yAhead_0 : decode cX0_yAhead 0 = .ok (.iload_n 1, 1) := by decide +kernel
theorem dX0_yAhead_1 : decode cX0_yAhead 1 = .ok (.ifCond .le 14, 3) := by decide +kernel
theorem dX0_yAhead_4 : decode cX0_yAhead 4 = .ok (.aload_n 0, 1) := by decide +kernel
theorem dX0_yAhead_5 : decode cX0_yAhead 5 = .ok (.getfield 32, 3) := by decide +kernel
theorem dX0_yAhead_8 : decode cX0_yAhead 8 = .ok (.iload_n 1, 1) := by decide +kernel
theorem dX0_yAhead_9 : decode cX0_yAhead 9 = .ok (.iconst 1, 1) := by decide +kernel
theorem dX0_yAhead_10 : decode cX0_yAhead 10 = .ok (.isub, 1) := by decide +kernel
theorem dX0_yAhead_11 : decode cX0_yAhead 11 = .ok (.iaload, 1) := by decide +kernel
theorem dX0_yAhead_12 : decode cX0_yAhead 12 = .ok (.goto 4, 3) := by decide +kernel
theorem dX0_yAhead_15 : decode cX0_yAhead 15 = .ok (.iconst 0, 1) := by decide +kernel
theorem dX0_yAhead_16 : decode cX0_yAhead 16 = .ok (.ireturn, 1) := by decide +kernel
theorem dX0_noteAhead_0 : decode cX0_noteAhead 0 = .ok (.iload_n 1, 1) := by decide +kernel
theorem dX0_noteAhead_1 : decode cX0_noteAhead 1 = .ok (.ifCond .le 14, 3) := by decide +kernel
theorem dX0_noteAhead_4 : decode cX0_noteAhead 4 = .ok (.aload_n 0, 1) := by decide +kernel
theorem dX0_noteAhead_5 : decode cX0_noteAhead 5 = .ok (.getfield 35, 3) := by decide +kernel
theorem dX0_noteAhead_8 : decode cX0_noteAhead 8 = .ok (.iload_n 1, 1) := by decide +kernel
theorem dX0_noteAhead_9 : decode cX0_noteAhead 9 = .ok (.iconst 1, 1) := by decide +kernel
theorem dX0_noteAhead_10 : decode cX0_noteAhead 10 = .ok (.isub, 1) := by decide +kernel
theorem dX0_noteAhead_11 : decode cX0_noteAhead 11 = .ok (.iaload, 1) := by decide +kernel
theorem dX0_noteAhead_12 : decode cX0_noteAhead 12 = .ok (.goto 5, 3) := by decide +kernel
theorem dX0_noteAhead_15 : decode cX0_noteAhead 15 = .ok (.bipush 12, 2) := by decide +kernel
theorem dX0_noteAhead_17 : decode cX0_noteAhead 17 = .ok (.ireturn, 1) := by decide +kernel
theorem dX0_follow_0 : decode cX0_follow 0 = .ok (.iload_n 1, 1) := by decide +kernel
theorem dX0_follow_1 : decode cX0_follow 1 = .ok (.istore_n 2, 1) := by decide +kernel
theorem dX0_follow_2 : decode cX0_follow 2 = .ok (.iload_n 2, 1) := by decide +kernel
theorem dX0_follow_3 : decode cX0_follow 3 = .ok (.aload_n 0, 1) := by decide +kernel
theorem dX0_follow_4 : decode cX0_follow 4 = .ok (.getfield 59, 3) := by decide +kernel
theorem dX0_follow_7 : decode cX0_follow 7 = .ok (.if_icmp .ge 107, 3) := by decide +kernel
theorem dX0_follow_10 : decode cX0_follow 10 = .ok (.aload_n 0, 1) := by decide +kernel
theorem dX0_follow_11 : decode cX0_follow 11 = .ok (.iload_n 2, 1) := by decide +kernel
theorem dX0_follow_12 : decode cX0_follow 12 = .ok (.invokevirtual 215, 3) := by decide +kernel
theorem dX0_follow_15 : decode cX0_follow 15 = .ok (.aload_n 0, 1) := by decide +kernel
theorem dX0_follow_16 : decode cX0_follow 16 = .ok (.getfield 9, 3) := by decide +kernel
theorem dX0_follow_19 : decode cX0_follow 19 = .ok (.iload_n 2, 1) := by decide +kernel
theorem dX0_follow_20 : decode cX0_follow 20 = .ok (.iaload, 1) := by decide +kernel
theorem dX0_follow_21 : decode cX0_follow 21 = .ok (.iadd, 1) := by decide +kernel
theorem dX0_follow_22 : decode cX0_follow 22 = .ok (.bipush 8, 2) := by decide +kernel
theorem dX0_follow_24 : decode cX0_follow 24 = .ok (.invokestatic 218, 3) := by decide +kernel
theorem dX0_follow_27 : decode cX0_follow 27 = .ok (.istore_n 3, 1) := by decide +kernel
theorem dX0_follow_28 : decode cX0_follow 28 = .ok (.aload_n 0, 1) := by decide +kernel
theorem dX0_follow_29 : decode cX0_follow 29 = .ok (.getfield 26, 3) := by decide +kernel
theorem dX0_follow_32 : decode cX0_follow 32 = .ok (.iload_n 2, 1) := by decide +kernel
theorem dX0_follow_33 : decode cX0_follow 33 = .ok (.iload_n 3, 1) := by decide +kernel
theorem dX0_follow_34 : decode cX0_follow 34 = .ok (.iastore, 1) := by decide +kernel
theorem dX0_follow_35 : decode cX0_follow 35 = .ok (.aload_n 0, 1) := by decide +kernel
theorem dX0_follow_36 : decode cX0_follow 36 = .ok (.getfield 29, 3) := by decide +kernel
theorem dX0_follow_39 : decode cX0_follow 39 = .ok (.iload_n 2, 1) := by decide +kernel
theorem dX0_follow_40 : decode cX0_follow 40 = .ok (.aload_n 0, 1) := by decide +kernel
theorem dX0_follow_41 : decode cX0_follow 41 = .ok (.iload_n 2, 1) := by decide +kernel
theorem dX0_follow_42 : decode cX0_follow 42 = .ok (.invokevirtual 88, 3) := by decide +kernel
theorem dX0_follow_45 : decode cX0_follow 45 = .ok (.aload_n 0, 1) := by decide +kernel
theorem dX0_follow_46 : decode cX0_follow 46 = .ok (.getfield 13, 3) := by decide +kernel
theorem dX0_follow_49 : decode cX0_follow 49 = .ok (.iload_n 2, 1) := by decide +kernel
theorem dX0_follow_50 : decode cX0_follow 50 = .ok (.iaload, 1) := by decide +kernel
theorem dX0_follow_51 : decode cX0_follow 51 = .ok (.getstatic 221, 3) := by decide +kernel
theorem dX0_follow_54 : decode cX0_follow 54 = .ok (.iload_n 3, 1) := by decide +kernel
theorem dX0_follow_55 : decode cX0_follow 55 = .ok (.iaload, 1) := by decide +kernel
theorem dX0_follow_56 : decode cX0_follow 56 = .ok (.imul, 1) := by decide +kernel
theorem dX0_follow_57 : decode cX0_follow 57 = .ok (.iadd, 1) := by decide +kernel
theorem dX0_follow_58 : decode cX0_follow 58 = .ok (.iastore, 1) := by decide +kernel
theorem dX0_follow_59 : decode cX0_follow 59 = .ok (.aload_n 0, 1) := by decide +kernel
theorem dX0_follow_60 : decode cX0_follow 60 = .ok (.getfield 32, 3) := by decide +kernel
theorem dX0_follow_63 : decode cX0_follow 63 = .ok (.iload_n 2, 1) := by decide +kernel
theorem dX0_follow_64 : decode cX0_follow 64 = .ok (.aload_n 0, 1) := by decide +kernel
theorem dX0_follow_65 : decode cX0_follow 65 = .ok (.iload_n 2, 1) := by decide +kernel
theorem dX0_follow_66 : decode cX0_follow 66 = .ok (.invokevirtual 92, 3) := by decide +kernel
theorem dX0_follow_69 : decode cX0_follow 69 = .ok (.aload_n 0, 1) := by decide +kernel
theorem dX0_follow_70 : decode cX0_follow 70 = .ok (.getfield 13, 3) := by decide +kernel
theorem dX0_follow_73 : decode cX0_follow 73 = .ok (.iload_n 2, 1) := by decide +kernel
theorem dX0_follow_74 : decode cX0_follow 74 = .ok (.iaload, 1) := by decide +kernel
theorem dX0_follow_75 : decode cX0_follow 75 = .ok (.getstatic 224, 3) := by decide +kernel
theorem dX0_follow_78 : decode cX0_follow 78 = .ok (.iload_n 3, 1) := by decide +kernel
theorem dX0_follow_79 : decode cX0_follow 79 = .ok (.iaload, 1) := by decide +kernel
theorem dX0_follow_80 : decode cX0_follow 80 = .ok (.imul, 1) := by decide +kernel
theorem dX0_follow_81 : decode cX0_follow 81 = .ok (.iadd, 1) := by decide +kernel
theorem dX0_follow_82 : decode cX0_follow 82 = .ok (.iastore, 1) := by decide +kernel
theorem dX0_follow_83 : decode cX0_follow 83 = .ok (.aload_n 0, 1) := by decide +kernel
theorem dX0_follow_84 : decode cX0_follow 84 = .ok (.getfield 35, 3) := by decide +kernel
theorem dX0_follow_87 : decode cX0_follow 87 = .ok (.iload_n 2, 1) := by decide +kernel
theorem dX0_follow_88 : decode cX0_follow 88 = .ok (.aload_n 0, 1) := by decide +kernel
theorem dX0_follow_89 : decode cX0_follow 89 = .ok (.iload_n 2, 1) := by decide +kernel
theorem dX0_follow_90 : decode cX0_follow 90 = .ok (.invokevirtual 114, 3) := by decide +kernel
theorem dX0_follow_93 : decode cX0_follow 93 = .ok (.aload_n 0, 1) := by decide +kernel
theorem dX0_follow_94 : decode cX0_follow 94 = .ok (.getfield 9, 3) := by decide +kernel
theorem dX0_follow_97 : decode cX0_follow 97 = .ok (.iload_n 2, 1) := by decide +kernel
theorem dX0_follow_98 : decode cX0_follow 98 = .ok (.iaload, 1) := by decide +kernel
theorem dX0_follow_99 : decode cX0_follow 99 = .ok (.aload_n 0, 1) := by decide +kernel
theorem dX0_follow_100 : decode cX0_follow 100 = .ok (.getfield 38, 3) := by decide +kernel
theorem dX0_follow_103 : decode cX0_follow 103 = .ok (.imul, 1) := by decide +kernel
theorem dX0_follow_104 : decode cX0_follow 104 = .ok (.invokestatic 227, 3) := by decide +kernel
theorem dX0_follow_107 : decode cX0_follow 107 = .ok (.iastore, 1) := by decide +kernel
theorem dX0_follow_108 : decode cX0_follow 108 = .ok (.iinc 2 1, 3) := by decide +kernel
theorem dX0_follow_111 : decode cX0_follow 111 = .ok (.goto (-109), 3) := by decide +kernel
theorem dX0_follow_114 : decode cX0_follow 114 = .ok (.return_, 1) := by decide +kernel
theorem dX0_endsWhereItWas_0 : decode cX0_endsWhereItWas 0 = .ok (.aload_n 0, 1) := by decide +kernel
theorem dX0_endsWhereItWas_1 : decode cX0_endsWhereItWas 1 = .ok (.getfield 29, 3) := by decide +kernel
theorem dX0_endsWhereItWas_4 : decode cX0_endsWhereItWas 4 = .ok (.iload_n 1, 1) := by decide +kernel
theorem dX0_endsWhereItWas_5 : decode cX0_endsWhereItWas 5 = .ok (.iaload, 1) := by decide +kernel
theorem dX0_endsWhereItWas_6 : decode cX0_endsWhereItWas 6 = .ok (.ifCond .ne 14, 3) := by decide +kernel
theorem dX0_endsWhereItWas_9 : decode cX0_endsWhereItWas 9 = .ok (.aload_n 0, 1) := by decide +kernel
theorem dX0_endsWhereItWas_10 : decode cX0_endsWhereItWas 10 = .ok (.getfield 32, 3) := by decide +kernel
theorem dX0_endsWhereItWas_13 : decode cX0_endsWhereItWas 13 = .ok (.iload_n 1, 1) := by decide +kernel
theorem dX0_endsWhereItWas_14 : decode cX0_endsWhereItWas 14 = .ok (.iaload, 1) := by decide +kernel
theorem dX0_endsWhereItWas_15 : decode cX0_endsWhereItWas 15 = .ok (.ifCond .ne 5, 3) := by decide +kernel
theorem dX0_endsWhereItWas_18 : decode cX0_endsWhereItWas 18 = .ok (.iconst 1, 1) := by decide +kernel
theorem dX0_endsWhereItWas_19 : decode cX0_endsWhereItWas 19 = .ok (.ireturn, 1) := by decide +kernel
theorem dX0_endsWhereItWas_20 : decode cX0_endsWhereItWas 20 = .ok (.iconst 0, 1) := by decide +kernel
theorem dX0_endsWhereItWas_21 : decode cX0_endsWhereItWas 21 = .ok (.istore_n 2, 1) := by decide +kernel
theorem dX0_endsWhereItWas_22 : decode cX0_endsWhereItWas 22 = .ok (.iload_n 2, 1) := by decide +kernel
theorem dX0_endsWhereItWas_23 : decode cX0_endsWhereItWas 23 = .ok (.iload_n 1, 1) := by decide +kernel
theorem dX0_endsWhereItWas_24 : decode cX0_endsWhereItWas 24 = .ok (.if_icmp .ge 41, 3) := by decide +kernel
theorem dX0_endsWhereItWas_27 : decode cX0_endsWhereItWas 27 = .ok (.aload_n 0, 1) := by decide +kernel
theorem dX0_endsWhereItWas_28 : decode cX0_endsWhereItWas 28 = .ok (.getfield 29, 3) := by decide +kernel
theorem dX0_endsWhereItWas_31 : decode cX0_endsWhereItWas 31 = .ok (.iload_n 2, 1) := by decide +kernel
theorem dX0_endsWhereItWas_32 : decode cX0_endsWhereItWas 32 = .ok (.iaload, 1) := by decide +kernel
theorem dX0_endsWhereItWas_33 : decode cX0_endsWhereItWas 33 = .ok (.aload_n 0, 1) := by decide +kernel
theorem dX0_endsWhereItWas_34 : decode cX0_endsWhereItWas 34 = .ok (.getfield 29, 3) := by decide +kernel
theorem dX0_endsWhereItWas_37 : decode cX0_endsWhereItWas 37 = .ok (.iload_n 1, 1) := by decide +kernel
theorem dX0_endsWhereItWas_38 : decode cX0_endsWhereItWas 38 = .ok (.iaload, 1) := by decide +kernel
theorem dX0_endsWhereItWas_39 : decode cX0_endsWhereItWas 39 = .ok (.if_icmp .ne 20, 3) := by decide +kernel
theorem dX0_endsWhereItWas_42 : decode cX0_endsWhereItWas 42 = .ok (.aload_n 0, 1) := by decide +kernel
theorem dX0_endsWhereItWas_43 : decode cX0_endsWhereItWas 43 = .ok (.getfield 32, 3) := by decide +kernel
theorem dX0_endsWhereItWas_46 : decode cX0_endsWhereItWas 46 = .ok (.iload_n 2, 1) := by decide +kernel
theorem dX0_endsWhereItWas_47 : decode cX0_endsWhereItWas 47 = .ok (.iaload, 1) := by decide +kernel
theorem dX0_endsWhereItWas_48 : decode cX0_endsWhereItWas 48 = .ok (.aload_n 0, 1) := by decide +kernel
theorem dX0_endsWhereItWas_49 : decode cX0_endsWhereItWas 49 = .ok (.getfield 32, 3) := by decide +kernel
theorem dX0_endsWhereItWas_52 : decode cX0_endsWhereItWas 52 = .ok (.iload_n 1, 1) := by decide +kernel
theorem dX0_endsWhereItWas_53 : decode cX0_endsWhereItWas 53 = .ok (.iaload, 1) := by decide +kernel
theorem dX0_endsWhereItWas_54 : decode cX0_endsWhereItWas 54 = .ok (.if_icmp .ne 5, 3) := by decide +kernel
theorem dX0_endsWhereItWas_57 : decode cX0_endsWhereItWas 57 = .ok (.iconst 1, 1) := by decide +kernel
theorem dX0_endsWhereItWas_58 : decode cX0_endsWhereItWas 58 = .ok (.ireturn, 1) := by decide +kernel
theorem dX0_endsWhereItWas_59 : decode cX0_endsWhereItWas 59 = .ok (.iinc 2 1, 3) := by decide +kernel
theorem dX0_endsWhereItWas_62 : decode cX0_endsWhereItWas 62 = .ok (.goto (-40), 3) := by decide +kernel
theorem dX0_endsWhereItWas_65 : decode cX0_endsWhereItWas 65 = .ok (.iconst 0, 1) := by decide +kernel
theorem dX0_endsWhereItWas_66 : decode cX0_endsWhereItWas 66 = .ok (.ireturn, 1) := by decide +kernel
theorem dX0_leavesVoice_0 : decode cX0_leavesVoice 0 = .ok (.iload_n 0, 1) := by decide +kernel
theorem dX0_leavesVoice_1 : decode cX0_leavesVoice 1 = .ok (.ifCond .lt 9, 3) := by decide +kernel
theorem dX0_leavesVoice_4 : decode cX0_leavesVoice 4 = .ok (.iload_n 0, 1) := by decide +kernel
theorem dX0_leavesVoice_5 : decode cX0_leavesVoice 5 = .ok (.bipush 24, 2) := by decide +kernel
theorem dX0_leavesVoice_7 : decode cX0_leavesVoice 7 = .ok (.if_icmp .le 7, 3) := by decide +kernel
theorem dX0_leavesVoice_10 : decode cX0_leavesVoice 10 = .ok (.iconst 1, 1) := by decide +kernel
theorem dX0_leavesVoice_11 : decode cX0_leavesVoice 11 = .ok (.goto 4, 3) := by decide +kernel
theorem dX0_leavesVoice_14 : decode cX0_leavesVoice 14 = .ok (.iconst 0, 1) := by decide +kernel
theorem dX0_leavesVoice_15 : decode cX0_leavesVoice 15 = .ok (.ireturn, 1) := by decide +kernel
theorem dX0_noteBehind_0 : decode cX0_noteBehind 0 = .ok (.iload_n 0, 1) := by decide +kernel
theorem dX0_noteBehind_1 : decode cX0_noteBehind 1 = .ok (.iload_n 1, 1) := by decide +kernel
theorem dX0_noteBehind_2 : decode cX0_noteBehind 2 = .ok (.iadd, 1) := by decide +kernel
theorem dX0_noteBehind_3 : decode cX0_noteBehind 3 = .ok (.istore_n 2, 1) := by decide +kernel
theorem dX0_noteBehind_4 : decode cX0_noteBehind 4 = .ok (.iload_n 2, 1) := by decide +kernel
theorem dX0_noteBehind_5 : decode cX0_noteBehind 5 = .ok (.invokestatic 117, 3) := by decide +kernel
theorem dX0_noteBehind_8 : decode cX0_noteBehind 8 = .ok (.ifCond .eq 9, 3) := by decide +kernel
theorem dX0_noteBehind_11 : decode cX0_noteBehind 11 = .ok (.iload_n 0, 1) := by decide +kernel
theorem dX0_noteBehind_12 : decode cX0_noteBehind 12 = .ok (.iload_n 1, 1) := by decide +kernel
theorem dX0_noteBehind_13 : decode cX0_noteBehind 13 = .ok (.isub, 1) := by decide +kernel
theorem dX0_noteBehind_14 : decode cX0_noteBehind 14 = .ok (.goto 4, 3) := by decide +kernel
theorem dX0_noteBehind_17 : decode cX0_noteBehind 17 = .ok (.iload_n 2, 1) := by decide +kernel
theorem dX0_noteBehind_18 : decode cX0_noteBehind 18 = .ok (.ireturn, 1) := by decide +kernel
theorem dX0_dropMarks_0 : decode cX0_dropMarks 0 = .ok (.iconst 0, 1) := by decide +kernel
theorem dX0_dropMarks_1 : decode cX0_dropMarks 1 = .ok (.istore_n 1, 1) := by decide +kernel
theorem dX0_dropMarks_2 : decode cX0_dropMarks 2 = .ok (.iload_n 1, 1) := by decide +kernel
theorem dX0_dropMarks_3 : decode cX0_dropMarks 3 = .ok (.aload_n 0, 1) := by decide +kernel
theorem dX0_dropMarks_4 : decode cX0_dropMarks 4 = .ok (.getfield 59, 3) := by decide +kernel
theorem dX0_dropMarks_7 : decode cX0_dropMarks 7 = .ok (.if_icmp .ge 16, 3) := by decide +kernel
theorem dX0_dropMarks_10 : decode cX0_dropMarks 10 = .ok (.aload_n 0, 1) := by decide +kernel
theorem dX0_dropMarks_11 : decode cX0_dropMarks 11 = .ok (.getfield 19, 3) := by decide +kernel
theorem dX0_dropMarks_14 : decode cX0_dropMarks 14 = .ok (.iload_n 1, 1) := by decide +kernel
theorem dX0_dropMarks_15 : decode cX0_dropMarks 15 = .ok (.iconst 0, 1) := by decide +kernel
theorem dX0_dropMarks_16 : decode cX0_dropMarks 16 = .ok (.bastore, 1) := by decide +kernel
theorem dX0_dropMarks_17 : decode cX0_dropMarks 17 = .ok (.iinc 1 1, 3) := by decide +kernel
theorem dX0_dropMarks_20 : decode cX0_dropMarks 20 = .ok (.goto (-18), 3) := by decide +kernel
theorem dX0_dropMarks_23 : decode cX0_dropMarks 23 = .ok (.return_, 1) := by decide +kernel
theorem dX0_turnsSungAs_0 : decode cX0_turnsSungAs 0 = .ok (.iconst 0, 1) := by decide +kernel
theorem dX0_turnsSungAs_1 : decode cX0_turnsSungAs 1 = .ok (.istore 4, 2) := by decide +kernel
theorem dX0_turnsSungAs_3 : decode cX0_turnsSungAs 3 = .ok (.bipush (-3), 2) := by decide +kernel
theorem dX0_turnsSungAs_5 : decode cX0_turnsSungAs 5 = .ok (.istore 5, 2) := by decide +kernel
theorem dX0_turnsSungAs_7 : decode cX0_turnsSungAs 7 = .ok (.iload 5, 2) := by decide +kernel
theorem dX0_turnsSungAs_9 : decode cX0_turnsSungAs 9 = .ok (.iload_n 3, 1) := by decide +kernel
theorem dX0_turnsSungAs_10 : decode cX0_turnsSungAs 10 = .ok (.if_icmp .ge 24, 3) := by decide +kernel
theorem dX0_turnsSungAs_13 : decode cX0_turnsSungAs 13 = .ok (.iload_n 1, 1) := by decide +kernel
theorem dX0_turnsSungAs_14 : decode cX0_turnsSungAs 14 = .ok (.iload 5, 2) := by decide +kernel
theorem dX0_turnsSungAs_16 : decode cX0_turnsSungAs 16 = .ok (.iload_n 2, 1) := by decide +kernel
theorem dX0_turnsSungAs_17 : decode cX0_turnsSungAs 17 = .ok (.imul, 1) := by decide +kernel
theorem dX0_turnsSungAs_18 : decode cX0_turnsSungAs 18 = .ok (.invokestatic 227, 3) := by decide +kernel
theorem dX0_turnsSungAs_21 : decode cX0_turnsSungAs 21 = .ok (.iload_n 0, 1) := by decide +kernel
theorem dX0_turnsSungAs_22 : decode cX0_turnsSungAs 22 = .ok (.if_icmp .ne 6, 3) := by decide +kernel
theorem dX0_turnsSungAs_25 : decode cX0_turnsSungAs 25 = .ok (.iinc 4 1, 3) := by decide +kernel
theorem dX0_turnsSungAs_28 : decode cX0_turnsSungAs 28 = .ok (.iinc 5 1, 3) := by decide +kernel
theorem dX0_turnsSungAs_31 : decode cX0_turnsSungAs 31 = .ok (.goto (-24), 3) := by decide +kernel
theorem dX0_turnsSungAs_34 : decode cX0_turnsSungAs 34 = .ok (.iload 4, 2) := by decide +kernel
theorem dX0_turnsSungAs_36 : decode cX0_turnsSungAs 36 = .ok (.ireturn, 1) := by decide +kernel
theorem dX0_landmarksNamed_0 : decode cX0_landmarksNamed 0 = .ok (.iconst 0, 1) := by decide +kernel
theorem dX0_landmarksNamed_1 : decode cX0_landmarksNamed 1 = .ok (.istore_n 3, 1) := by decide +kernel
theorem dX0_landmarksNamed_2 : decode cX0_landmarksNamed 2 = .ok (.iconst 0, 1) := by decide +kernel
theorem dX0_landmarksNamed_3 : decode cX0_landmarksNamed 3 = .ok (.istore 4, 2) := by decide +kernel
theorem dX0_landmarksNamed_5 : decode cX0_landmarksNamed 5 = .ok (.iload 4, 2) := by decide +kernel
theorem dX0_landmarksNamed_7 : decode cX0_landmarksNamed 7 = .ok (.iload_n 2, 1) := by decide +kernel
theorem dX0_landmarksNamed_8 : decode cX0_landmarksNamed 8 = .ok (.if_icmp .ge 23, 3) := by decide +kernel
theorem dX0_landmarksNamed_11 : decode cX0_landmarksNamed 11 = .ok (.aload_n 0, 1) := by decide +kernel
theorem dX0_landmarksNamed_12 : decode cX0_landmarksNamed 12 = .ok (.getfield 23, 3) := by decide +kernel
theorem dX0_landmarksNamed_15 : decode cX0_landmarksNamed 15 = .ok (.iload 4, 2) := by decide +kernel
theorem dX0_landmarksNamed_17 : decode cX0_landmarksNamed 17 = .ok (.iaload, 1) := by decide +kernel
theorem dX0_landmarksNamed_18 : decode cX0_landmarksNamed 18 = .ok (.iload_n 1, 1) := by decide +kernel
theorem dX0_landmarksNamed_19 : decode cX0_landmarksNamed 19 = .ok (.if_icmp .ne 6, 3) := by decide +kernel
theorem dX0_landmarksNamed_22 : decode cX0_landmarksNamed 22 = .ok (.iinc 3 1, 3) := by decide +kernel
theorem dX0_landmarksNamed_25 : decode cX0_landmarksNamed 25 = .ok (.iinc 4 1, 3) := by decide +kernel
theorem dX0_landmarksNamed_28 : decode cX0_landmarksNamed 28 = .ok (.goto (-23), 3) := by decide +kernel
theorem dX0_landmarksNamed_31 : decode cX0_landmarksNamed 31 = .ok (.iload_n 3, 1) := by decide +kernel
theorem dX0_landmarksNamed_32 : decode cX0_landmarksNamed 32 = .ok (.ireturn, 1) := by decide +kernel
theorem dX0_mostAmbiguous_0 : decode cX0_mostAmbiguous 0 = .ok (.iconst (-1), 1) := by decide +kernel
theorem dX0_mostAmbiguous_1 : decode cX0_mostAmbiguous 1 = .ok (.istore_n 1, 1) := by decide +kernel
theorem dX0_mostAmbiguous_2 : decode cX0_mostAmbiguous 2 = .ok (.iconst 1, 1) := by decide +kernel
theorem dX0_mostAmbiguous_3 : decode cX0_mostAmbiguous 3 = .ok (.istore_n 2, 1) := by decide +kernel
theorem dX0_mostAmbiguous_4 : decode cX0_mostAmbiguous 4 = .ok (.iconst 0, 1) := by decide +kernel
theorem dX0_mostAmbiguous_5 : decode cX0_mostAmbiguous 5 = .ok (.istore_n 3, 1) := by decide +kernel
theorem dX0_mostAmbiguous_6 : decode cX0_mostAmbiguous 6 = .ok (.iload_n 3, 1) := by decide +kernel
theorem dX0_mostAmbiguous_7 : decode cX0_mostAmbiguous 7 = .ok (.aload_n 0, 1) := by decide +kernel
theorem dX0_mostAmbiguous_8 : decode cX0_mostAmbiguous 8 = .ok (.getfield 59, 3) := by decide +kernel
theorem dX0_mostAmbiguous_11 : decode cX0_mostAmbiguous 11 = .ok (.if_icmp .ge 36, 3) := by decide +kernel
theorem dX0_mostAmbiguous_14 : decode cX0_mostAmbiguous 14 = .ok (.aload_n 0, 1) := by decide +kernel
theorem dX0_mostAmbiguous_15 : decode cX0_mostAmbiguous 15 = .ok (.iload_n 3, 1) := by decide +kernel
theorem dX0_mostAmbiguous_16 : decode cX0_mostAmbiguous 16 = .ok (.invokevirtual 136, 3) := by decide +kernel
theorem dX0_mostAmbiguous_19 : decode cX0_mostAmbiguous 19 = .ok (.istore 4, 2) := by decide +kernel
theorem dX0_mostAmbiguous_21 : decode cX0_mostAmbiguous 21 = .ok (.aload_n 0, 1) := by decide +kernel
theorem dX0_mostAmbiguous_22 : decode cX0_mostAmbiguous 22 = .ok (.getfield 19, 3) := by decide +kernel
theorem dX0_mostAmbiguous_25 : decode cX0_mostAmbiguous 25 = .ok (.iload_n 3, 1) := by decide +kernel
theorem dX0_mostAmbiguous_26 : decode cX0_mostAmbiguous 26 = .ok (.baload, 1) := by decide +kernel
theorem dX0_mostAmbiguous_27 : decode cX0_mostAmbiguous 27 = .ok (.ifCond .ne 14, 3) := by decide +kernel
theorem dX0_mostAmbiguous_30 : decode cX0_mostAmbiguous 30 = .ok (.iload 4, 2) := by decide +kernel
theorem dX0_mostAmbiguous_32 : decode cX0_mostAmbiguous 32 = .ok (.iload_n 2, 1) := by decide +kernel
theorem dX0_mostAmbiguous_33 : decode cX0_mostAmbiguous 33 = .ok (.if_icmp .le 8, 3) := by decide +kernel
theorem dX0_mostAmbiguous_36 : decode cX0_mostAmbiguous 36 = .ok (.iload 4, 2) := by decide +kernel
theorem dX0_mostAmbiguous_38 : decode cX0_mostAmbiguous 38 = .ok (.istore_n 2, 1) := by decide +kernel
theorem dX0_mostAmbiguous_39 : decode cX0_mostAmbiguous 39 = .ok (.iload_n 3, 1) := by decide +kernel
theorem dX0_mostAmbiguous_40 : decode cX0_mostAmbiguous 40 = .ok (.istore_n 1, 1) := by decide +kernel
theorem dX0_mostAmbiguous_41 : decode cX0_mostAmbiguous 41 = .ok (.iinc 3 1, 3) := by decide +kernel
theorem dX0_mostAmbiguous_44 : decode cX0_mostAmbiguous 44 = .ok (.goto (-38), 3) := by decide +kernel
theorem dX0_mostAmbiguous_47 : decode cX0_mostAmbiguous 47 = .ok (.iload_n 1, 1) := by decide +kernel
theorem dX0_mostAmbiguous_48 : decode cX0_mostAmbiguous 48 = .ok (.ireturn, 1) := by decide +kernel
theorem dX0_unmendedWith_0 : decode cX0_unmendedWith 0 = .ok (.iconst 0, 1) := by decide +kernel
theorem dX0_unmendedWith_1 : decode cX0_unmendedWith 1 = .ok (.istore 4, 2) := by decide +kernel
theorem dX0_unmendedWith_3 : decode cX0_unmendedWith 3 = .ok (.bipush 12, 2) := by decide +kernel
theorem dX0_unmendedWith_5 : decode cX0_unmendedWith 5 = .ok (.istore 5, 2) := by decide +kernel
theorem dX0_unmendedWith_7 : decode cX0_unmendedWith 7 = .ok (.iconst 0, 1) := by decide +kernel
theorem dX0_unmendedWith_8 : decode cX0_unmendedWith 8 = .ok (.istore 6, 2) := by decide +kernel
theorem dX0_unmendedWith_10 : decode cX0_unmendedWith 10 = .ok (.iload 6, 2) := by decide +kernel
theorem dX0_unmendedWith_12 : decode cX0_unmendedWith 12 = .ok (.aload_n 0, 1) := by decide +kernel
theorem dX0_unmendedWith_13 : decode cX0_unmendedWith 13 = .ok (.getfield 59, 3) := by decide +kernel
theorem dX0_unmendedWith_16 : decode cX0_unmendedWith 16 = .ok (.if_icmp .ge 73, 3) := by decide +kernel
theorem dX0_unmendedWith_19 : decode cX0_unmendedWith 19 = .ok (.iload 5, 2) := by decide +kernel
theorem dX0_unmendedWith_21 : decode cX0_unmendedWith 21 = .ok (.aload_n 0, 1) := by decide +kernel
theorem dX0_unmendedWith_22 : decode cX0_unmendedWith 22 = .ok (.getfield 9, 3) := by decide +kernel
theorem dX0_unmendedWith_25 : decode cX0_unmendedWith 25 = .ok (.iload 6, 2) := by decide +kernel
theorem dX0_unmendedWith_27 : decode cX0_unmendedWith 27 = .ok (.iaload, 1) := by decide +kernel
theorem dX0_unmendedWith_28 : decode cX0_unmendedWith 28 = .ok (.iload_n 1, 1) := by decide +kernel
theorem dX0_unmendedWith_29 : decode cX0_unmendedWith 29 = .ok (.imul, 1) := by decide +kernel
theorem dX0_unmendedWith_30 : decode cX0_unmendedWith 30 = .ok (.invokestatic 227, 3) := by decide +kernel
theorem dX0_unmendedWith_33 : decode cX0_unmendedWith 33 = .ok (.istore 7, 2) := by decide +kernel
theorem dX0_unmendedWith_35 : decode cX0_unmendedWith 35 = .ok (.iload 7, 2) := by decide +kernel
theorem dX0_unmendedWith_37 : decode cX0_unmendedWith 37 = .ok (.iload 5, 2) := by decide +kernel
theorem dX0_unmendedWith_39 : decode cX0_unmendedWith 39 = .ok (.iload_n 1, 1) := by decide +kernel
theorem dX0_unmendedWith_40 : decode cX0_unmendedWith 40 = .ok (.iconst 4, 1) := by decide +kernel
theorem dX0_unmendedWith_41 : decode cX0_unmendedWith 41 = .ok (.invokestatic 129, 3) := by decide +kernel
theorem dX0_unmendedWith_44 : decode cX0_unmendedWith 44 = .ok (.iconst 1, 1) := by decide +kernel
theorem dX0_unmendedWith_45 : decode cX0_unmendedWith 45 = .ok (.if_icmp .le 7, 3) := by decide +kernel
theorem dX0_unmendedWith_48 : decode cX0_unmendedWith 48 = .ok (.iconst 1, 1) := by decide +kernel
theorem dX0_unmendedWith_49 : decode cX0_unmendedWith 49 = .ok (.goto 4, 3) := by decide +kernel
theorem dX0_unmendedWith_52 : decode cX0_unmendedWith 52 = .ok (.iconst 0, 1) := by decide +kernel
theorem dX0_unmendedWith_53 : decode cX0_unmendedWith 53 = .ok (.istore 8, 2) := by decide +kernel
theorem dX0_unmendedWith_55 : decode cX0_unmendedWith 55 = .ok (.iload 8, 2) := by decide +kernel
theorem dX0_unmendedWith_57 : decode cX0_unmendedWith 57 = .ok (.ifCond .ne 19, 3) := by decide +kernel
theorem dX0_unmendedWith_60 : decode cX0_unmendedWith 60 = .ok (.aload_n 0, 1) := by decide +kernel
theorem dX0_unmendedWith_61 : decode cX0_unmendedWith 61 = .ok (.aload_n 0, 1) := by decide +kernel
theorem dX0_unmendedWith_62 : decode cX0_unmendedWith 62 = .ok (.getfield 16, 3) := by decide +kernel
theorem dX0_unmendedWith_65 : decode cX0_unmendedWith 65 = .ok (.iload 6, 2) := by decide +kernel
theorem dX0_unmendedWith_67 : decode cX0_unmendedWith 67 = .ok (.iaload, 1) := by decide +kernel
theorem dX0_unmendedWith_68 : decode cX0_unmendedWith 68 = .ok (.iload_n 2, 1) := by decide +kernel
theorem dX0_unmendedWith_69 : decode cX0_unmendedWith 69 = .ok (.iload_n 3, 1) := by decide +kernel
theorem dX0_unmendedWith_70 : decode cX0_unmendedWith 70 = .ok (.invokevirtual 230, 3) := by decide +kernel
theorem dX0_unmendedWith_73 : decode cX0_unmendedWith 73 = .ok (.ifCond .eq 6, 3) := by decide +kernel
theorem dX0_unmendedWith_76 : decode cX0_unmendedWith 76 = .ok (.iinc 4 1, 3) := by decide +kernel
theorem dX0_unmendedWith_79 : decode cX0_unmendedWith 79 = .ok (.iload 7, 2) := by decide +kernel
theorem dX0_unmendedWith_81 : decode cX0_unmendedWith 81 = .ok (.istore 5, 2) := by decide +kernel
theorem dX0_unmendedWith_83 : decode cX0_unmendedWith 83 = .ok (.iinc 6 1, 3) := by decide +kernel
theorem dX0_unmendedWith_86 : decode cX0_unmendedWith 86 = .ok (.goto (-76), 3) := by decide +kernel
theorem dX0_unmendedWith_89 : decode cX0_unmendedWith 89 = .ok (.iload 4, 2) := by decide +kernel
theorem dX0_unmendedWith_91 : decode cX0_unmendedWith 91 = .ok (.ireturn, 1) := by decide +kernel
theorem dX0_sharesWordIf_0 : decode cX0_sharesWordIf 0 = .ok (.aload_n 0, 1) := by decide +kernel
theorem dX0_sharesWordIf_1 : decode cX0_sharesWordIf 1 = .ok (.iload_n 1, 1) := by decide +kernel
theorem dX0_sharesWordIf_2 : decode cX0_sharesWordIf 2 = .ok (.iload_n 2, 1) := by decide +kernel
theorem dX0_sharesWordIf_3 : decode cX0_sharesWordIf 3 = .ok (.iload_n 3, 1) := by decide +kernel
theorem dX0_sharesWordIf_4 : decode cX0_sharesWordIf 4 = .ok (.invokevirtual 234, 3) := by decide +kernel
theorem dX0_sharesWordIf_7 : decode cX0_sharesWordIf 7 = .ok (.istore 4, 2) := by decide +kernel
theorem dX0_sharesWordIf_9 : decode cX0_sharesWordIf 9 = .ok (.iconst 0, 1) := by decide +kernel
theorem dX0_sharesWordIf_10 : decode cX0_sharesWordIf 10 = .ok (.istore 5, 2) := by decide +kernel
theorem dX0_sharesWordIf_12 : decode cX0_sharesWordIf 12 = .ok (.iload 5, 2) := by decide +kernel
theorem dX0_sharesWordIf_14 : decode cX0_sharesWordIf 14 = .ok (.bipush 10, 2) := by decide +kernel
theorem dX0_sharesWordIf_16 : decode cX0_sharesWordIf 16 = .ok (.if_icmp .ge 30, 3) := by decide +kernel
theorem dX0_sharesWordIf_19 : decode cX0_sharesWordIf 19 = .ok (.iload 5, 2) := by decide +kernel
theorem dX0_sharesWordIf_21 : decode cX0_sharesWordIf 21 = .ok (.iload_n 1, 1) := by decide +kernel
theorem dX0_sharesWordIf_22 : decode cX0_sharesWordIf 22 = .ok (.if_icmp .eq 18, 3) := by decide +kernel
theorem dX0_sharesWordIf_25 : decode cX0_sharesWordIf 25 = .ok (.aload_n 0, 1) := by decide +kernel
theorem dX0_sharesWordIf_26 : decode cX0_sharesWordIf 26 = .ok (.iload 5, 2) := by decide +kernel
theorem dX0_sharesWordIf_28 : decode cX0_sharesWordIf 28 = .ok (.iload_n 2, 1) := by decide +kernel
theorem dX0_sharesWordIf_29 : decode cX0_sharesWordIf 29 = .ok (.iload_n 3, 1) := by decide +kernel
theorem dX0_sharesWordIf_30 : decode cX0_sharesWordIf 30 = .ok (.invokevirtual 234, 3) := by decide +kernel
theorem dX0_sharesWordIf_33 : decode cX0_sharesWordIf 33 = .ok (.iload 4, 2) := by decide +kernel
theorem dX0_sharesWordIf_35 : decode cX0_sharesWordIf 35 = .ok (.if_icmp .ne 5, 3) := by decide +kernel
theorem dX0_sharesWordIf_38 : decode cX0_sharesWordIf 38 = .ok (.iconst 1, 1) := by decide +kernel
theorem dX0_sharesWordIf_39 : decode cX0_sharesWordIf 39 = .ok (.ireturn, 1) := by decide +kernel
theorem dX0_sharesWordIf_40 : decode cX0_sharesWordIf 40 = .ok (.iinc 5 1, 3) := by decide +kernel
theorem dX0_sharesWordIf_43 : decode cX0_sharesWordIf 43 = .ok (.goto (-31), 3) := by decide +kernel
theorem dX0_sharesWordIf_46 : decode cX0_sharesWordIf 46 = .ok (.iconst 0, 1) := by decide +kernel
theorem dX0_sharesWordIf_47 : decode cX0_sharesWordIf 47 = .ok (.ireturn, 1) := by decide +kernel
theorem dX0_wordIf_0 : decode cX0_wordIf 0 = .ok (.iload_n 1, 1) := by decide +kernel
theorem dX0_wordIf_1 : decode cX0_wordIf 1 = .ok (.iload_n 2, 1) := by decide +kernel
theorem dX0_wordIf_2 : decode cX0_wordIf 2 = .ok (.if_icmp .ne 7, 3) := by decide +kernel
theorem dX0_wordIf_5 : decode cX0_wordIf 5 = .ok (.iload_n 3, 1) := by decide +kernel
theorem dX0_wordIf_6 : decode cX0_wordIf 6 = .ok (.goto 9, 3) := by decide +kernel
theorem dX0_wordIf_9 : decode cX0_wordIf 9 = .ok (.aload_n 0, 1) := by decide +kernel
theorem dX0_wordIf_10 : decode cX0_wordIf 10 = .ok (.getfield 23, 3) := by decide +kernel
theorem dX0_wordIf_13 : decode cX0_wordIf 13 = .ok (.iload_n 1, 1) := by decide +kernel
theorem dX0_wordIf_14 : decode cX0_wordIf 14 = .ok (.iaload, 1) := by decide +kernel
theorem dX0_wordIf_15 : decode cX0_wordIf 15 = .ok (.ireturn, 1) := by decide +kernel
theorem dX0_digested_0 : decode cX0_digested 0 = .ok (.lload_n 0, 1) := by decide +kernel
theorem dX0_digested_1 : decode cX0_digested 1 = .ok (.ldc2_w 237, 3) := by decide +kernel
theorem dX0_digested_4 : decode cX0_digested 4 = .ok (.lmul, 1) := by decide +kernel
theorem dX0_digested_5 : decode cX0_digested 5 = .ok (.lload_n 2, 1) := by decide +kernel
theorem dX0_digested_6 : decode cX0_digested 6 = .ok (.ladd, 1) := by decide +kernel
theorem dX0_digested_7 : decode cX0_digested 7 = .ok (.lreturn, 1) := by decide +kernel
theorem dX0_digestOfLeg_0 : decode cX0_digestOfLeg 0 = .ok (.lload_n 1, 1) := by decide +kernel
theorem dX0_digestOfLeg_1 : decode cX0_digestOfLeg 1 = .ok (.lstore 4, 2) := by decide +kernel
theorem dX0_digestOfLeg_3 : decode cX0_digestOfLeg 3 = .ok (.lload 4, 2) := by decide +kernel
theorem dX0_digestOfLeg_5 : decode cX0_digestOfLeg 5 = .ok (.aload_n 0, 1) := by decide +kernel
theorem dX0_digestOfLeg_6 : decode cX0_digestOfLeg 6 = .ok (.iload_n 3, 1) := by decide +kernel
theorem dX0_digestOfLeg_7 : decode cX0_digestOfLeg 7 = .ok (.invokevirtual 239, 3) := by decide +kernel
theorem dX0_digestOfLeg_10 : decode cX0_digestOfLeg 10 = .ok (.i2l, 1) := by decide +kernel
theorem dX0_digestOfLeg_11 : decode cX0_digestOfLeg 11 = .ok (.invokestatic 171, 3) := by decide +kernel
theorem dX0_digestOfLeg_14 : decode cX0_digestOfLeg 14 = .ok (.lstore 4, 2) := by decide +kernel
theorem dX0_digestOfLeg_16 : decode cX0_digestOfLeg 16 = .ok (.lload 4, 2) := by decide +kernel
theorem dX0_digestOfLeg_18 : decode cX0_digestOfLeg 18 = .ok (.aload_n 0, 1) := by decide +kernel
theorem dX0_digestOfLeg_19 : decode cX0_digestOfLeg 19 = .ok (.iload_n 3, 1) := by decide +kernel
theorem dX0_digestOfLeg_20 : decode cX0_digestOfLeg 20 = .ok (.invokevirtual 242, 3) := by decide +kernel
theorem dX0_digestOfLeg_23 : decode cX0_digestOfLeg 23 = .ok (.i2l, 1) := by decide +kernel
theorem dX0_digestOfLeg_24 : decode cX0_digestOfLeg 24 = .ok (.invokestatic 171, 3) := by decide +kernel
theorem dX0_digestOfLeg_27 : decode cX0_digestOfLeg 27 = .ok (.lstore 4, 2) := by decide +kernel
theorem dX0_digestOfLeg_29 : decode cX0_digestOfLeg 29 = .ok (.lload 4, 2) := by decide +kernel
theorem dX0_digestOfLeg_31 : decode cX0_digestOfLeg 31 = .ok (.aload_n 0, 1) := by decide +kernel
theorem dX0_digestOfLeg_32 : decode cX0_digestOfLeg 32 = .ok (.iload_n 3, 1) := by decide +kernel
theorem dX0_digestOfLeg_33 : decode cX0_digestOfLeg 33 = .ok (.invokevirtual 245, 3) := by decide +kernel
theorem dX0_digestOfLeg_36 : decode cX0_digestOfLeg 36 = .ok (.i2l, 1) := by decide +kernel
theorem dX0_digestOfLeg_37 : decode cX0_digestOfLeg 37 = .ok (.invokestatic 171, 3) := by decide +kernel
theorem dX0_digestOfLeg_40 : decode cX0_digestOfLeg 40 = .ok (.lstore 4, 2) := by decide +kernel
theorem dX0_digestOfLeg_42 : decode cX0_digestOfLeg 42 = .ok (.lload 4, 2) := by decide +kernel
theorem dX0_digestOfLeg_44 : decode cX0_digestOfLeg 44 = .ok (.aload_n 0, 1) := by decide +kernel
theorem dX0_digestOfLeg_45 : decode cX0_digestOfLeg 45 = .ok (.iload_n 3, 1) := by decide +kernel
theorem dX0_digestOfLeg_46 : decode cX0_digestOfLeg 46 = .ok (.invokevirtual 248, 3) := by decide +kernel
theorem dX0_digestOfLeg_49 : decode cX0_digestOfLeg 49 = .ok (.i2l, 1) := by decide +kernel
theorem dX0_digestOfLeg_50 : decode cX0_digestOfLeg 50 = .ok (.invokestatic 171, 3) := by decide +kernel
theorem dX0_digestOfLeg_53 : decode cX0_digestOfLeg 53 = .ok (.lstore 4, 2) := by decide +kernel
theorem dX0_digestOfLeg_55 : decode cX0_digestOfLeg 55 = .ok (.lload 4, 2) := by decide +kernel
theorem dX0_digestOfLeg_57 : decode cX0_digestOfLeg 57 = .ok (.aload_n 0, 1) := by decide +kernel
theorem dX0_digestOfLeg_58 : decode cX0_digestOfLeg 58 = .ok (.iload_n 3, 1) := by decide +kernel
theorem dX0_digestOfLeg_59 : decode cX0_digestOfLeg 59 = .ok (.invokevirtual 251, 3) := by decide +kernel
theorem dX0_digestOfLeg_62 : decode cX0_digestOfLeg 62 = .ok (.i2l, 1) := by decide +kernel
theorem dX0_digestOfLeg_63 : decode cX0_digestOfLeg 63 = .ok (.invokestatic 171, 3) := by decide +kernel
theorem dX0_digestOfLeg_66 : decode cX0_digestOfLeg 66 = .ok (.lstore 4, 2) := by decide +kernel
theorem dX0_digestOfLeg_68 : decode cX0_digestOfLeg 68 = .ok (.lload 4, 2) := by decide +kernel
theorem dX0_digestOfLeg_70 : decode cX0_digestOfLeg 70 = .ok (.aload_n 0, 1) := by decide +kernel
theorem dX0_digestOfLeg_71 : decode cX0_digestOfLeg 71 = .ok (.iload_n 3, 1) := by decide +kernel
theorem dX0_digestOfLeg_72 : decode cX0_digestOfLeg 72 = .ok (.invokevirtual 136, 3) := by decide +kernel
theorem dX0_digestOfLeg_75 : decode cX0_digestOfLeg 75 = .ok (.i2l, 1) := by decide +kernel
theorem dX0_digestOfLeg_76 : decode cX0_digestOfLeg 76 = .ok (.invokestatic 171, 3) := by decide +kernel
theorem dX0_digestOfLeg_79 : decode cX0_digestOfLeg 79 = .ok (.lstore 4, 2) := by decide +kernel
theorem dX0_digestOfLeg_81 : decode cX0_digestOfLeg 81 = .ok (.lload 4, 2) := by decide +kernel
theorem dX0_digestOfLeg_83 : decode cX0_digestOfLeg 83 = .ok (.aload_n 0, 1) := by decide +kernel
theorem dX0_digestOfLeg_84 : decode cX0_digestOfLeg 84 = .ok (.iload_n 3, 1) := by decide +kernel
theorem dX0_digestOfLeg_85 : decode cX0_digestOfLeg 85 = .ok (.invokevirtual 144, 3) := by decide +kernel
theorem dX0_digestOfLeg_88 : decode cX0_digestOfLeg 88 = .ok (.i2l, 1) := by decide +kernel
theorem dX0_digestOfLeg_89 : decode cX0_digestOfLeg 89 = .ok (.invokestatic 171, 3) := by decide +kernel
theorem dX0_digestOfLeg_92 : decode cX0_digestOfLeg 92 = .ok (.lstore 4, 2) := by decide +kernel
theorem dX0_digestOfLeg_94 : decode cX0_digestOfLeg 94 = .ok (.lload 4, 2) := by decide +kernel
theorem dX0_digestOfLeg_96 : decode cX0_digestOfLeg 96 = .ok (.aload_n 0, 1) := by decide +kernel
theorem dX0_digestOfLeg_97 : decode cX0_digestOfLeg 97 = .ok (.iload_n 3, 1) := by decide +kernel
theorem dX0_digestOfLeg_98 : decode cX0_digestOfLeg 98 = .ok (.invokevirtual 254, 3) := by decide +kernel
theorem dX0_digestOfLeg_101 : decode cX0_digestOfLeg 101 = .ok (.ifCond .eq 7, 3) := by decide +kernel
theorem dX0_digestOfLeg_104 : decode cX0_digestOfLeg 104 = .ok (.lconst 1, 1) := by decide +kernel
theorem dX0_digestOfLeg_105 : decode cX0_digestOfLeg 105 = .ok (.goto 4, 3) := by decide +kernel
theorem dX0_digestOfLeg_108 : decode cX0_digestOfLeg 108 = .ok (.lconst 0, 1) := by decide +kernel
theorem dX0_digestOfLeg_109 : decode cX0_digestOfLeg 109 = .ok (.invokestatic 171, 3) := by decide +kernel
theorem dX0_digestOfLeg_112 : decode cX0_digestOfLeg 112 = .ok (.lstore 4, 2) := by decide +kernel
theorem dX0_digestOfLeg_114 : decode cX0_digestOfLeg 114 = .ok (.lload 4, 2) := by decide +kernel
theorem dX0_digestOfLeg_116 : decode cX0_digestOfLeg 116 = .ok (.lreturn, 1) := by decide +kernel
end
section
theorem dX1_init_0 : decode cX1_init 0 = .ok (.aload_n 0, 1) := by decide +kernel
theorem dX1_init_1 : decode cX1_init 1 = .ok (.invokespecial 1, 3) := by decide +kernel
theorem dX1_init_4 : decode cX1_init 4 = .ok (.aload_n 0, 1) := by decide +kernel
theorem dX1_init_5 : decode cX1_init 5 = .ok (.iconst 2, 1) := by decide +kernel
theorem dX1_init_6 : decode cX1_init 6 = .ok (.putfield 7, 3) := by decide +kernel
theorem dX1_init_9 : decode cX1_init 9 = .ok (.aload_n 0, 1) := by decide +kernel
theorem dX1_init_10 : decode cX1_init 10 = .ok (.bipush 16, 2) := by decide +kernel
theorem dX1_init_12 : decode cX1_init 12 = .ok (.newarray .int, 2) := by decide +kernel
theorem dX1_init_14 : decode cX1_init 14 = .ok (.putfield 13, 3) := by decide +kernel
theorem dX1_init_17 : decode cX1_init 17 = .ok (.aload_n 0, 1) := by decide +kernel
theorem dX1_init_18 : decode cX1_init 18 = .ok (.bipush 16, 2) := by decide +kernel
theorem dX1_init_20 : decode cX1_init 20 = .ok (.newarray .int, 2) := by decide +kernel
theorem dX1_init_22 : decode cX1_init 22 = .ok (.putfield 17, 3) := by decide +kernel
theorem dX1_init_25 : decode cX1_init 25 = .ok (.aload_n 0, 1) := by decide +kernel
theorem dX1_init_26 : decode cX1_init 26 = .ok (.bipush 16, 2) := by decide +kernel
theorem dX1_init_28 : decode cX1_init 28 = .ok (.newarray .int, 2) := by decide +kernel
theorem dX1_init_30 : decode cX1_init 30 = .ok (.putfield 20, 3) := by decide +kernel
theorem dX1_init_33 : decode cX1_init 33 = .ok (.aload_n 0, 1) := by decide +kernel
theorem dX1_init_34 : decode cX1_init 34 = .ok (.bipush 10, 2) := by decide +kernel
theorem dX1_init_36 : decode cX1_init 36 = .ok (.newarray .int, 2) := by decide +kernel
theorem dX1_init_38 : decode cX1_init 38 = .ok (.dup, 1) := by decide +kernel
theorem dX1_init_39 : decode cX1_init 39 = .ok (.iconst 0, 1) := by decide +kernel
theorem dX1_init_40 : decode cX1_init 40 = .ok (.iconst 0, 1) := by decide +kernel
theorem dX1_init_41 : decode cX1_init 41 = .ok (.iastore, 1) := by decide +kernel
theorem dX1_init_42 : decode cX1_init 42 = .ok (.dup, 1) := by decide +kernel
theorem dX1_init_43 : decode cX1_init 43 = .ok (.iconst 1, 1) := by decide +kernel
theorem dX1_init_44 : decode cX1_init 44 = .ok (.iconst 1, 1) := by decide +kernel
theorem dX1_init_45 : decode cX1_init 45 = .ok (.iastore, 1) := by decide +kernel
theorem dX1_init_46 : decode cX1_init 46 = .ok (.dup, 1) := by decide +kernel
theorem dX1_init_47 : decode cX1_init 47 = .ok (.iconst 2, 1) := by decide +kernel
theorem dX1_init_48 : decode cX1_init 48 = .ok (.iconst 2, 1) := by decide +kernel
theorem dX1_init_49 : decode cX1_init 49 = .ok (.iastore, 1) := by decide +kernel
theorem dX1_init_50 : decode cX1_init 50 = .ok (.dup, 1) := by decide +kernel
theorem dX1_init_51 : decode cX1_init 51 = .ok (.iconst 3, 1) := by decide +kernel
theorem dX1_init_52 : decode cX1_init 52 = .ok (.iconst 3, 1) := by decide +kernel
theorem dX1_init_53 : decode cX1_init 53 = .ok (.iastore, 1) := by decide +kernel
theorem dX1_init_54 : decode cX1_init 54 = .ok (.dup, 1) := by decide +kernel
theorem dX1_init_55 : decode cX1_init 55 = .ok (.iconst 4, 1) := by decide +kernel
theorem dX1_init_56 : decode cX1_init 56 = .ok (.iconst 4, 1) := by decide +kernel
theorem dX1_init_57 : decode cX1_init 57 = .ok (.iastore, 1) := by decide +kernel
theorem dX1_init_58 : decode cX1_init 58 = .ok (.dup, 1) := by decide +kernel
theorem dX1_init_59 : decode cX1_init 59 = .ok (.iconst 5, 1) := by decide +kernel
theorem dX1_init_60 : decode cX1_init 60 = .ok (.iconst 5, 1) := by decide +kernel
theorem dX1_init_61 : decode cX1_init 61 = .ok (.iastore, 1) := by decide +kernel
theorem dX1_init_62 : decode cX1_init 62 = .ok (.dup, 1) := by decide +kernel
theorem dX1_init_63 : decode cX1_init 63 = .ok (.bipush 6, 2) := by decide +kernel
theorem dX1_init_65 : decode cX1_init 65 = .ok (.bipush 6, 2) := by decide +kernel
theorem dX1_init_67 : decode cX1_init 67 = .ok (.iastore, 1) := by decide +kernel
theorem dX1_init_68 : decode cX1_init 68 = .ok (.dup, 1) := by decide +kernel
theorem dX1_init_69 : decode cX1_init 69 = .ok (.bipush 7, 2) := by decide +kernel
theorem dX1_init_71 : decode cX1_init 71 = .ok (.bipush 7, 2) := by decide +kernel
theorem dX1_init_73 : decode cX1_init 73 = .ok (.iastore, 1) := by decide +kernel
theorem dX1_init_74 : decode cX1_init 74 = .ok (.dup, 1) := by decide +kernel
theorem dX1_init_75 : decode cX1_init 75 = .ok (.bipush 8, 2) := by decide +kernel
theorem dX1_init_77 : decode cX1_init 77 = .ok (.bipush 8, 2) := by decide +kernel
theorem dX1_init_79 : decode cX1_init 79 = .ok (.iastore, 1) := by decide +kernel
theorem dX1_init_80 : decode cX1_init 80 = .ok (.dup, 1) := by decide +kernel
theorem dX1_init_81 : decode cX1_init 81 = .ok (.bipush 9, 2) := by decide +kernel
theorem dX1_init_83 : decode cX1_init 83 = .ok (.bipush 9, 2) := by decide +kernel
theorem dX1_init_85 : decode cX1_init 85 = .ok (.iastore, 1) := by decide +kernel
theorem dX1_init_86 : decode cX1_init 86 = .ok (.putfield 23, 3) := by decide +kernel
theorem dX1_init_89 : decode cX1_init 89 = .ok (.aload_n 0, 1) := by decide +kernel
theorem dX1_init_90 : decode cX1_init 90 = .ok (.bipush 17, 2) := by decide +kernel
theorem dX1_init_92 : decode cX1_init 92 = .ok (.newarray .int, 2) := by decide +kernel
theorem dX1_init_94 : decode cX1_init 94 = .ok (.putfield 26, 3) := by decide +kernel
theorem dX1_init_97 : decode cX1_init 97 = .ok (.aload_n 0, 1) := by decide +kernel
theorem dX1_init_98 : decode cX1_init 98 = .ok (.bipush 17, 2) := by decide +kernel
theorem dX1_init_100 : decode cX1_init 100 = .ok (.newarray .int, 2) := by decide +kernel
theorem dX1_init_102 : decode cX1_init 102 = .ok (.putfield 29, 3) := by decide +kernel
theorem dX1_init_105 : decode cX1_init 105 = .ok (.aload_n 0, 1) := by decide +kernel
theorem dX1_init_106 : decode cX1_init 106 = .ok (.bipush 17, 2) := by decide +kernel
theorem dX1_init_108 : decode cX1_init 108 = .ok (.newarray .int, 2) := by decide +kernel
theorem dX1_init_110 : decode cX1_init 110 = .ok (.putfield 32, 3) := by decide +kernel
theorem dX1_init_113 : decode cX1_init 113 = .ok (.return_, 1) := by decide +kernel
theorem dX1_thrown_0 : decode cX1_thrown 0 = .ok (.aload_n 0, 1) := by decide +kernel
theorem dX1_thrown_1 : decode cX1_thrown 1 = .ok (.getfield 35, 3) := by decide +kernel
theorem dX1_thrown_4 : decode cX1_thrown 4 = .ok (.ireturn, 1) := by decide +kernel
theorem dX1_no_0 : decode cX1_no 0 = .ok (.aload_n 0, 1) := by decide +kernel
theorem dX1_no_1 : decode cX1_no 1 = .ok (.iload_n 1, 1) := by decide +kernel
theorem dX1_no_2 : decode cX1_no 2 = .ok (.putfield 35, 3) := by decide +kernel
theorem dX1_no_5 : decode cX1_no 5 = .ok (.iconst 0, 1) := by decide +kernel
theorem dX1_no_6 : decode cX1_no 6 = .ok (.ireturn, 1) := by decide +kernel
theorem dX1_isNot_0 : decode cX1_isNot 0 = .ok (.aload_n 0, 1) := by decide +kernel
theorem dX1_isNot_1 : decode cX1_isNot 1 = .ok (.iload_n 1, 1) := by decide +kernel
theorem dX1_isNot_2 : decode cX1_isNot 2 = .ok (.putfield 35, 3) := by decide +kernel
theorem dX1_isNot_5 : decode cX1_isNot 5 = .ok (.iconst 0, 1) := by decide +kernel
theorem dX1_isNot_6 : decode cX1_isNot 6 = .ok (.ireturn, 1) := by decide +kernel
theorem dX1_ok_0 : decode cX1_ok 0 = .ok (.aload_n 0, 1) := by decide +kernel
theorem dX1_ok_1 : decode cX1_ok 1 = .ok (.iconst 0, 1) := by decide +kernel
theorem dX1_ok_2 : decode cX1_ok 2 = .ok (.putfield 35, 3) := by decide +kernel
theorem dX1_ok_5 : decode cX1_ok 5 = .ok (.iload_n 1, 1) := by decide +kernel
theorem dX1_ok_6 : decode cX1_ok 6 = .ok (.ireturn, 1) := by decide +kernel
theorem dX1_isIn_0 : decode cX1_isIn 0 = .ok (.iload_n 0, 1) := by decide +kernel
theorem dX1_isIn_1 : decode cX1_isIn 1 = .ok (.iload_n 1, 1) := by decide +kernel
theorem dX1_isIn_2 : decode cX1_isIn 2 = .ok (.if_icmp .lt 12, 3) := by decide +kernel
theorem dX1_isIn_5 : decode cX1_isIn 5 = .ok (.iload_n 0, 1) := by decide +kernel
theorem dX1_isIn_6 : decode cX1_isIn 6 = .ok (.iload_n 2, 1) := by decide +kernel
theorem dX1_isIn_7 : decode cX1_isIn 7 = .ok (.if_icmp .gt 7, 3) := by decide +kernel
theorem dX1_isIn_10 : decode cX1_isIn 10 = .ok (.iconst 1, 1) := by decide +kernel
theorem dX1_isIn_11 : decode cX1_isIn 11 = .ok (.goto 4, 3) := by decide +kernel
theorem dX1_isIn_14 : decode cX1_isIn 14 = .ok (.iconst 0, 1) := by decide +kernel
theorem dX1_isIn_15 : decode cX1_isIn 15 = .ok (.ireturn, 1) := by decide +kernel
theorem dX1_isLeg_0 : decode cX1_isLeg 0 = .ok (.iload_n 1, 1) := by decide +kernel
theorem dX1_isLeg_1 : decode cX1_isLeg 1 = .ok (.iconst 0, 1) := by decide +kernel
theorem dX1_isLeg_2 : decode cX1_isLeg 2 = .ok (.aload_n 0, 1) := by decide +kernel
theorem dX1_isLeg_3 : decode cX1_isLeg 3 = .ok (.getfield 38, 3) := by decide +kernel
theorem dX1_isLeg_6 : decode cX1_isLeg 6 = .ok (.iconst 1, 1) := by decide +kernel
theorem dX1_isLeg_7 : decode cX1_isLeg 7 = .ok (.isub, 1) := by decide +kernel
theorem dX1_isLeg_8 : decode cX1_isLeg 8 = .ok (.invokestatic 41, 3) := by decide +kernel
theorem dX1_isLeg_11 : decode cX1_isLeg 11 = .ok (.ireturn, 1) := by decide +kernel
theorem dX1_isKind_0 : decode cX1_isKind 0 = .ok (.iload_n 0, 1) := by decide +kernel
theorem dX1_isKind_1 : decode cX1_isKind 1 = .ok (.iconst 0, 1) := by decide +kernel
theorem dX1_isKind_2 : decode cX1_isKind 2 = .ok (.bipush 9, 2) := by decide +kernel
theorem dX1_isKind_4 : decode cX1_isKind 4 = .ok (.invokestatic 41, 3) := by decide +kernel
theorem dX1_isKind_7 : decode cX1_isKind 7 = .ok (.ireturn, 1) := by decide +kernel
theorem dX1_heading_0 : decode cX1_heading 0 = .ok (.iconst 0, 1) := by decide +kernel
theorem dX1_heading_1 : decode cX1_heading 1 = .ok (.istore_n 2, 1) := by decide +kernel
theorem dX1_heading_2 : decode cX1_heading 2 = .ok (.iconst 0, 1) := by decide +kernel
theorem dX1_heading_3 : decode cX1_heading 3 = .ok (.istore_n 3, 1) := by decide +kernel
theorem dX1_heading_4 : decode cX1_heading 4 = .ok (.iload_n 3, 1) := by decide +kernel
theorem dX1_heading_5 : decode cX1_heading 5 = .ok (.iload_n 1, 1) := by decide +kernel
theorem dX1_heading_6 : decode cX1_heading 6 = .ok (.if_icmp .gt 21, 3) := by decide +kernel
theorem dX1_heading_9 : decode cX1_heading 9 = .ok (.iload_n 2, 1) := by decide +kernel
theorem dX1_heading_10 : decode cX1_heading 10 = .ok (.aload_n 0, 1) := by decide +kernel
theorem dX1_heading_11 : decode cX1_heading 11 = .ok (.getfield 13, 3) := by decide +kernel
theorem dX1_heading_14 : decode cX1_heading 14 = .ok (.iload_n 3, 1) := by decide +kernel
theorem dX1_heading_15 : decode cX1_heading 15 = .ok (.iaload, 1) := by decide +kernel
theorem dX1_heading_16 : decode cX1_heading 16 = .ok (.bipush 8, 2) := by decide +kernel
theorem dX1_heading_18 : decode cX1_heading 18 = .ok (.iadd, 1) := by decide +kernel
theorem dX1_heading_19 : decode cX1_heading 19 = .ok (.iadd, 1) := by decide +kernel
theorem dX1_heading_20 : decode cX1_heading 20 = .ok (.istore_n 2, 1) := by decide +kernel
theorem dX1_heading_21 : decode cX1_heading 21 = .ok (.iinc 3 1, 3) := by decide +kernel
theorem dX1_heading_24 : decode cX1_heading 24 = .ok (.goto (-20), 3) := by decide +kernel
theorem dX1_heading_27 : decode cX1_heading 27 = .ok (.iload_n 2, 1) := by decide +kernel
theorem dX1_heading_28 : decode cX1_heading 28 = .ok (.bipush 8, 2) := by decide +kernel
theorem dX1_heading_30 : decode cX1_heading 30 = .ok (.irem, 1) := by decide +kernel
theorem dX1_heading_31 : decode cX1_heading 31 = .ok (.ireturn, 1) := by decide +kernel
theorem dX1_walk_0 : decode cX1_walk 0 = .ok (.aload_n 0, 1) := by decide +kernel
theorem dX1_walk_1 : decode cX1_walk 1 = .ok (.getfield 29, 3) := by decide +kernel
theorem dX1_walk_4 : decode cX1_walk 4 = .ok (.iconst 0, 1) := by decide +kernel
theorem dX1_walk_5 : decode cX1_walk 5 = .ok (.iconst 0, 1) := by decide +kernel
theorem dX1_walk_6 : decode cX1_walk 6 = .ok (.iastore, 1) := by decide +kernel
theorem dX1_walk_7 : decode cX1_walk 7 = .ok (.aload_n 0, 1) := by decide +kernel
theorem dX1_walk_8 : decode cX1_walk 8 = .ok (.getfield 32, 3) := by decide +kernel
theorem dX1_walk_11 : decode cX1_walk 11 = .ok (.iconst 0, 1) := by decide +kernel
theorem dX1_walk_12 : decode cX1_walk 12 = .ok (.iconst 0, 1) := by decide +kernel
theorem dX1_walk_13 : decode cX1_walk 13 = .ok (.iastore, 1) := by decide +kernel
theorem dX1_walk_14 : decode cX1_walk 14 = .ok (.iconst 0, 1) := by decide +kernel
theorem dX1_walk_15 : decode cX1_walk 15 = .ok (.istore_n 1, 1) := by decide +kernel
theorem dX1_walk_16 : decode cX1_walk 16 = .ok (.iload_n 1, 1) := by decide +kernel
theorem dX1_walk_17 : decode cX1_walk 17 = .ok (.aload_n 0, 1) := by decide +kernel
theorem dX1_walk_18 : decode cX1_walk 18 = .ok (.getfield 38, 3) := by decide +kernel
theorem dX1_walk_21 : decode cX1_walk 21 = .ok (.if_icmp .ge 76, 3) := by decide +kernel
theorem dX1_walk_24 : decode cX1_walk 24 = .ok (.aload_n 0, 1) := by decide +kernel
theorem dX1_walk_25 : decode cX1_walk 25 = .ok (.getfield 29, 3) := by decide +kernel
theorem dX1_walk_28 : decode cX1_walk 28 = .ok (.iload_n 1, 1) := by decide +kernel
theorem dX1_walk_29 : decode cX1_walk 29 = .ok (.iconst 1, 1) := by decide +kernel
theorem dX1_walk_30 : decode cX1_walk 30 = .ok (.iadd, 1) := by decide +kernel
theorem dX1_walk_31 : decode cX1_walk 31 = .ok (.aload_n 0, 1) := by decide +kernel
theorem dX1_walk_32 : decode cX1_walk 32 = .ok (.getfield 29, 3) := by decide +kernel
theorem dX1_walk_35 : decode cX1_walk 35 = .ok (.iload_n 1, 1) := by decide +kernel
theorem dX1_walk_36 : decode cX1_walk 36 = .ok (.iaload, 1) := by decide +kernel
theorem dX1_walk_37 : decode cX1_walk 37 = .ok (.aload_n 0, 1) := by decide +kernel
theorem dX1_walk_38 : decode cX1_walk 38 = .ok (.getfield 17, 3) := by decide +kernel
theorem dX1_walk_41 : decode cX1_walk 41 = .ok (.iload_n 1, 1) := by decide +kernel
theorem dX1_walk_42 : decode cX1_walk 42 = .ok (.iaload, 1) := by decide +kernel
theorem dX1_walk_43 : decode cX1_walk 43 = .ok (.getstatic 45, 3) := by decide +kernel
theorem dX1_walk_46 : decode cX1_walk 46 = .ok (.aload_n 0, 1) := by decide +kernel
theorem dX1_walk_47 : decode cX1_walk 47 = .ok (.iload_n 1, 1) := by decide +kernel
theorem dX1_walk_48 : decode cX1_walk 48 = .ok (.invokevirtual 48, 3) := by decide +kernel
theorem dX1_walk_51 : decode cX1_walk 51 = .ok (.iaload, 1) := by decide +kernel
theorem dX1_walk_52 : decode cX1_walk 52 = .ok (.imul, 1) := by decide +kernel
theorem dX1_walk_53 : decode cX1_walk 53 = .ok (.iadd, 1) := by decide +kernel
theorem dX1_walk_54 : decode cX1_walk 54 = .ok (.iastore, 1) := by decide +kernel
theorem dX1_walk_55 : decode cX1_walk 55 = .ok (.aload_n 0, 1) := by decide +kernel
theorem dX1_walk_56 : decode cX1_walk 56 = .ok (.getfield 32, 3) := by decide +kernel
theorem dX1_walk_59 : decode cX1_walk 59 = .ok (.iload_n 1, 1) := by decide +kernel
theorem dX1_walk_60 : decode cX1_walk 60 = .ok (.iconst 1, 1) := by decide +kernel
theorem dX1_walk_61 : decode cX1_walk 61 = .ok (.iadd, 1) := by decide +kernel
theorem dX1_walk_62 : decode cX1_walk 62 = .ok (.aload_n 0, 1) := by decide +kernel
theorem dX1_walk_63 : decode cX1_walk 63 = .ok (.getfield 32, 3) := by decide +kernel
theorem dX1_walk_66 : decode cX1_walk 66 = .ok (.iload_n 1, 1) := by decide +kernel
theorem dX1_walk_67 : decode cX1_walk 67 = .ok (.iaload, 1) := by decide +kernel
theorem dX1_walk_68 : decode cX1_walk 68 = .ok (.aload_n 0, 1) := by decide +kernel
theorem dX1_walk_69 : decode cX1_walk 69 = .ok (.getfield 17, 3) := by decide +kernel
theorem dX1_walk_72 : decode cX1_walk 72 = .ok (.iload_n 1, 1) := by decide +kernel
theorem dX1_walk_73 : decode cX1_walk 73 = .ok (.iaload, 1) := by decide +kernel
theorem dX1_walk_74 : decode cX1_walk 74 = .ok (.getstatic 45, 3) := by decide +kernel
theorem dX1_walk_77 : decode cX1_walk 77 = .ok (.aload_n 0, 1) := by decide +kernel
theorem dX1_walk_78 : decode cX1_walk 78 = .ok (.iload_n 1, 1) := by decide +kernel
theorem dX1_walk_79 : decode cX1_walk 79 = .ok (.invokevirtual 48, 3) := by decide +kernel
theorem dX1_walk_82 : decode cX1_walk 82 = .ok (.iconst 2, 1) := by decide +kernel
theorem dX1_walk_83 : decode cX1_walk 83 = .ok (.iadd, 1) := by decide +kernel
theorem dX1_walk_84 : decode cX1_walk 84 = .ok (.bipush 8, 2) := by decide +kernel
theorem dX1_walk_86 : decode cX1_walk 86 = .ok (.irem, 1) := by decide +kernel
theorem dX1_walk_87 : decode cX1_walk 87 = .ok (.iaload, 1) := by decide +kernel
theorem dX1_walk_88 : decode cX1_walk 88 = .ok (.imul, 1) := by decide +kernel
theorem dX1_walk_89 : decode cX1_walk 89 = .ok (.iadd, 1) := by decide +kernel
theorem dX1_walk_90 : decode cX1_walk 90 = .ok (.iastore, 1) := by decide +kernel
theorem dX1_walk_91 : decode cX1_walk 91 = .ok (.iinc 1 1, 3) := by decide +kernel
theorem dX1_walk_94 : decode cX1_walk 94 = .ok (.goto (-78), 3) := by decide +kernel
theorem dX1_walk_97 : decode cX1_walk 97 = .ok (.return_, 1) := by decide +kernel
theorem dX1_home_0 : decode cX1_home 0 = .ok (.aload_n 0, 1) := by decide +kernel
theorem dX1_home_1 : decode cX1_home 1 = .ok (.invokevirtual 52, 3) := by decide +kernel
theorem dX1_home_4 : decode cX1_home 4 = .ok (.aload_n 0, 1) := by decide +kernel
theorem dX1_home_5 : decode cX1_home 5 = .ok (.getfield 29, 3) := by decide +kernel
theorem dX1_home_8 : decode cX1_home 8 = .ok (.aload_n 0, 1) := by decide +kernel
theorem dX1_home_9 : decode cX1_home 9 = .ok (.getfield 38, 3) := by decide +kernel
theorem dX1_home_12 : decode cX1_home 12 = .ok (.iaload, 1) := by decide +kernel
theorem dX1_home_13 : decode cX1_home 13 = .ok (.invokestatic 55, 3) := by decide +kernel
theorem dX1_home_16 : decode cX1_home 16 = .ok (.aload_n 0, 1) := by decide +kernel
theorem dX1_home_17 : decode cX1_home 17 = .ok (.getfield 32, 3) := by decide +kernel
theorem dX1_home_20 : decode cX1_home 20 = .ok (.aload_n 0, 1) := by decide +kernel
theorem dX1_home_21 : decode cX1_home 21 = .ok (.getfield 38, 3) := by decide +kernel
theorem dX1_home_24 : decode cX1_home 24 = .ok (.iaload, 1) := by decide +kernel
theorem dX1_home_25 : decode cX1_home 25 = .ok (.invokestatic 55, 3) := by decide +kernel
theorem dX1_home_28 : decode cX1_home 28 = .ok (.invokestatic 60, 3) := by decide +kernel
theorem dX1_home_31 : decode cX1_home 31 = .ok (.ireturn, 1) := by decide +kernel
theorem dX1_back_0 : decode cX1_back 0 = .ok (.aload_n 0, 1) := by decide +kernel
theorem dX1_back_1 : decode cX1_back 1 = .ok (.invokevirtual 52, 3) := by decide +kernel
theorem dX1_back_4 : decode cX1_back 4 = .ok (.iconst 0, 1) := by decide +kernel
theorem dX1_back_5 : decode cX1_back 5 = .ok (.istore_n 1, 1) := by decide +kernel
theorem dX1_back_6 : decode cX1_back 6 = .ok (.iconst 1, 1) := by decide +kernel
theorem dX1_back_7 : decode cX1_back 7 = .ok (.istore_n 2, 1) := by decide +kernel
theorem dX1_back_8 : decode cX1_back 8 = .ok (.iload_n 2, 1) := by decide +kernel
theorem dX1_back_9 : decode cX1_back 9 = .ok (.aload_n 0, 1) := by decide +kernel
theorem dX1_back_10 : decode cX1_back 10 = .ok (.getfield 38, 3) := by decide +kernel
theorem dX1_back_13 : decode cX1_back 13 = .ok (.if_icmp .gt 80, 3) := by decide +kernel
theorem dX1_back_16 : decode cX1_back 16 = .ok (.iconst 0, 1) := by decide +kernel
theorem dX1_back_17 : decode cX1_back 17 = .ok (.istore_n 3, 1) := by decide +kernel
theorem dX1_back_18 : decode cX1_back 18 = .ok (.iconst 0, 1) := by decide +kernel
theorem dX1_back_19 : decode cX1_back 19 = .ok (.istore 4, 2) := by decide +kernel
theorem dX1_back_21 : decode cX1_back 21 = .ok (.iload 4, 2) := by decide +kernel
theorem dX1_back_23 : decode cX1_back 23 = .ok (.iload_n 2, 1) := by decide +kernel
theorem dX1_back_24 : decode cX1_back 24 = .ok (.if_icmp .ge 51, 3) := by decide +kernel
theorem dX1_back_27 : decode cX1_back 27 = .ok (.iload_n 3, 1) := by decide +kernel
theorem dX1_back_28 : decode cX1_back 28 = .ok (.ifCond .ne 35, 3) := by decide +kernel
theorem dX1_back_31 : decode cX1_back 31 = .ok (.aload_n 0, 1) := by decide +kernel
theorem dX1_back_32 : decode cX1_back 32 = .ok (.getfield 29, 3) := by decide +kernel
theorem dX1_back_35 : decode cX1_back 35 = .ok (.iload 4, 2) := by decide +kernel
theorem dX1_back_37 : decode cX1_back 37 = .ok (.iaload, 1) := by decide +kernel
theorem dX1_back_38 : decode cX1_back 38 = .ok (.aload_n 0, 1) := by decide +kernel
theorem dX1_back_39 : decode cX1_back 39 = .ok (.getfield 29, 3) := by decide +kernel
theorem dX1_back_42 : decode cX1_back 42 = .ok (.iload_n 2, 1) := by decide +kernel
theorem dX1_back_43 : decode cX1_back 43 = .ok (.iaload, 1) := by decide +kernel
theorem dX1_back_44 : decode cX1_back 44 = .ok (.if_icmp .ne 23, 3) := by decide +kernel
theorem dX1_back_47 : decode cX1_back 47 = .ok (.aload_n 0, 1) := by decide +kernel
theorem dX1_back_48 : decode cX1_back 48 = .ok (.getfield 32, 3) := by decide +kernel
theorem dX1_back_51 : decode cX1_back 51 = .ok (.iload 4, 2) := by decide +kernel
theorem dX1_back_53 : decode cX1_back 53 = .ok (.iaload, 1) := by decide +kernel
theorem dX1_back_54 : decode cX1_back 54 = .ok (.aload_n 0, 1) := by decide +kernel
theorem dX1_back_55 : decode cX1_back 55 = .ok (.getfield 32, 3) := by decide +kernel
theorem dX1_back_58 : decode cX1_back 58 = .ok (.iload_n 2, 1) := by decide +kernel
theorem dX1_back_59 : decode cX1_back 59 = .ok (.iaload, 1) := by decide +kernel
theorem dX1_back_60 : decode cX1_back 60 = .ok (.if_icmp .ne 7, 3) := by decide +kernel
theorem dX1_back_63 : decode cX1_back 63 = .ok (.iconst 1, 1) := by decide +kernel
theorem dX1_back_64 : decode cX1_back 64 = .ok (.goto 4, 3) := by decide +kernel
theorem dX1_back_67 : decode cX1_back 67 = .ok (.iconst 0, 1) := by decide +kernel
theorem dX1_back_68 : decode cX1_back 68 = .ok (.istore_n 3, 1) := by decide +kernel
theorem dX1_back_69 : decode cX1_back 69 = .ok (.iinc 4 1, 3) := by decide +kernel
theorem dX1_back_72 : decode cX1_back 72 = .ok (.goto (-51), 3) := by decide +kernel
theorem dX1_back_75 : decode cX1_back 75 = .ok (.iload_n 1, 1) := by decide +kernel
theorem dX1_back_76 : decode cX1_back 76 = .ok (.iload_n 3, 1) := by decide +kernel
theorem dX1_back_77 : decode cX1_back 77 = .ok (.ifCond .eq 7, 3) := by decide +kernel
theorem dX1_back_80 : decode cX1_back 80 = .ok (.iconst 1, 1) := by decide +kernel
theorem dX1_back_81 : decode cX1_back 81 = .ok (.goto 4, 3) := by decide +kernel
theorem dX1_back_84 : decode cX1_back 84 = .ok (.iconst 0, 1) := by decide +kernel
theorem dX1_back_85 : decode cX1_back 85 = .ok (.iadd, 1) := by decide +kernel
theorem dX1_back_86 : decode cX1_back 86 = .ok (.istore_n 1, 1) := by decide +kernel
theorem dX1_back_87 : decode cX1_back 87 = .ok (.iinc 2 1, 3) := by decide +kernel
theorem dX1_back_90 : decode cX1_back 90 = .ok (.goto (-82), 3) := by decide +kernel
theorem dX1_back_93 : decode cX1_back 93 = .ok (.iload_n 1, 1) := by decide +kernel
theorem dX1_back_94 : decode cX1_back 94 = .ok (.ireturn, 1) := by decide +kernel
theorem dX1_endOf_0 : decode cX1_endOf 0 = .ok (.aload_n 0, 1) := by decide +kernel
theorem dX1_endOf_1 : decode cX1_endOf 1 = .ok (.invokevirtual 52, 3) := by decide +kernel
theorem dX1_endOf_4 : decode cX1_endOf 4 = .ok (.aload_n 1, 1) := by decide +kernel
theorem dX1_endOf_5 : decode cX1_endOf 5 = .ok (.aload_n 0, 1) := by decide +kernel
theorem dX1_endOf_6 : decode cX1_endOf 6 = .ok (.getfield 38, 3) := by decide +kernel
theorem dX1_endOf_9 : decode cX1_endOf 9 = .ok (.iaload, 1) := by decide +kernel
theorem dX1_endOf_10 : decode cX1_endOf 10 = .ok (.ireturn, 1) := by decide +kernel
theorem dX1_folds_0 : decode cX1_folds 0 = .ok (.iload_n 0, 1) := by decide +kernel
theorem dX1_folds_1 : decode cX1_folds 1 = .ok (.iload_n 1, 1) := by decide +kernel
theorem dX1_folds_2 : decode cX1_folds 2 = .ok (.iadd, 1) := by decide +kernel
theorem dX1_folds_3 : decode cX1_folds 3 = .ok (.iconst 0, 1) := by decide +kernel
theorem dX1_folds_4 : decode cX1_folds 4 = .ok (.bipush 24, 2) := by decide +kernel
theorem dX1_folds_6 : decode cX1_folds 6 = .ok (.invokestatic 41, 3) := by decide +kernel
theorem dX1_folds_9 : decode cX1_folds 9 = .ok (.ifCond .ne 7, 3) := by decide +kernel
theorem dX1_folds_12 : decode cX1_folds 12 = .ok (.iconst 1, 1) := by decide +kernel
theorem dX1_folds_13 : decode cX1_folds 13 = .ok (.goto 4, 3) := by decide +kernel
theorem dX1_folds_16 : decode cX1_folds 16 = .ok (.iconst 0, 1) := by decide +kernel
theorem dX1_folds_17 : decode cX1_folds 17 = .ok (.ireturn, 1) := by decide +kernel
theorem dX1_sing_0 : decode cX1_sing 0 = .ok (.aload_n 0, 1) := by decide +kernel
theorem dX1_sing_1 : decode cX1_sing 1 = .ok (.getfield 26, 3) := by decide +kernel
theorem dX1_sing_4 : decode cX1_sing 4 = .ok (.iconst 0, 1) := by decide +kernel
theorem dX1_sing_5 : decode cX1_sing 5 = .ok (.bipush 12, 2) := by decide +kernel
theorem dX1_sing_7 : decode cX1_sing 7 = .ok (.iastore, 1) := by decide +kernel
theorem dX1_sing_8 : decode cX1_sing 8 = .ok (.iconst 0, 1) := by decide +kernel
theorem dX1_sing_9 : decode cX1_sing 9 = .ok (.istore_n 2, 1) := by decide +kernel
theorem dX1_sing_10 : decode cX1_sing 10 = .ok (.iload_n 2, 1) := by decide +kernel
theorem dX1_sing_11 : decode cX1_sing 11 = .ok (.aload_n 0, 1) := by decide +kernel
theorem dX1_sing_12 : decode cX1_sing 12 = .ok (.getfield 38, 3) := by decide +kernel
theorem dX1_sing_15 : decode cX1_sing 15 = .ok (.if_icmp .ge 64, 3) := by decide +kernel
theorem dX1_sing_18 : decode cX1_sing 18 = .ok (.aload_n 0, 1) := by decide +kernel
theorem dX1_sing_19 : decode cX1_sing 19 = .ok (.getfield 26, 3) := by decide +kernel
theorem dX1_sing_22 : decode cX1_sing 22 = .ok (.iload_n 2, 1) := by decide +kernel
theorem dX1_sing_23 : decode cX1_sing 23 = .ok (.iconst 1, 1) := by decide +kernel
theorem dX1_sing_24 : decode cX1_sing 24 = .ok (.iadd, 1) := by decide +kernel
theorem dX1_sing_25 : decode cX1_sing 25 = .ok (.aload_n 0, 1) := by decide +kernel
theorem dX1_sing_26 : decode cX1_sing 26 = .ok (.getfield 26, 3) := by decide +kernel
theorem dX1_sing_29 : decode cX1_sing 29 = .ok (.iload_n 2, 1) := by decide +kernel
theorem dX1_sing_30 : decode cX1_sing 30 = .ok (.iaload, 1) := by decide +kernel
theorem dX1_sing_31 : decode cX1_sing 31 = .ok (.aload_n 0, 1) := by decide +kernel
theorem dX1_sing_32 : decode cX1_sing 32 = .ok (.getfield 26, 3) := by decide +kernel
theorem dX1_sing_35 : decode cX1_sing 35 = .ok (.iload_n 2, 1) := by decide +kernel
theorem dX1_sing_36 : decode cX1_sing 36 = .ok (.iaload, 1) := by decide +kernel
theorem dX1_sing_37 : decode cX1_sing 37 = .ok (.iload_n 1, 1) := by decide +kernel
theorem dX1_sing_38 : decode cX1_sing 38 = .ok (.aload_n 0, 1) := by decide +kernel
theorem dX1_sing_39 : decode cX1_sing 39 = .ok (.getfield 13, 3) := by decide +kernel
theorem dX1_sing_42 : decode cX1_sing 42 = .ok (.iload_n 2, 1) := by decide +kernel
theorem dX1_sing_43 : decode cX1_sing 43 = .ok (.iaload, 1) := by decide +kernel
theorem dX1_sing_44 : decode cX1_sing 44 = .ok (.imul, 1) := by decide +kernel
theorem dX1_sing_45 : decode cX1_sing 45 = .ok (.invokestatic 64, 3) := by decide +kernel
theorem dX1_sing_48 : decode cX1_sing 48 = .ok (.ifCond .eq 15, 3) := by decide +kernel
theorem dX1_sing_51 : decode cX1_sing 51 = .ok (.iload_n 1, 1) := by decide +kernel
theorem dX1_sing_52 : decode cX1_sing 52 = .ok (.ineg, 1) := by decide +kernel
theorem dX1_sing_53 : decode cX1_sing 53 = .ok (.aload_n 0, 1) := by decide +kernel
theorem dX1_sing_54 : decode cX1_sing 54 = .ok (.getfield 13, 3) := by decide +kernel
theorem dX1_sing_57 : decode cX1_sing 57 = .ok (.iload_n 2, 1) := by decide +kernel
theorem dX1_sing_58 : decode cX1_sing 58 = .ok (.iaload, 1) := by decide +kernel
theorem dX1_sing_59 : decode cX1_sing 59 = .ok (.imul, 1) := by decide +kernel
theorem dX1_sing_60 : decode cX1_sing 60 = .ok (.goto 11, 3) := by decide +kernel
theorem dX1_sing_63 : decode cX1_sing 63 = .ok (.iload_n 1, 1) := by decide +kernel
theorem dX1_sing_64 : decode cX1_sing 64 = .ok (.aload_n 0, 1) := by decide +kernel
theorem dX1_sing_65 : decode cX1_sing 65 = .ok (.getfield 13, 3) := by decide +kernel
theorem dX1_sing_68 : decode cX1_sing 68 = .ok (.iload_n 2, 1) := by decide +kernel
theorem dX1_sing_69 : decode cX1_sing 69 = .ok (.iaload, 1) := by decide +kernel
theorem dX1_sing_70 : decode cX1_sing 70 = .ok (.imul, 1) := by decide +kernel
theorem dX1_sing_71 : decode cX1_sing 71 = .ok (.iadd, 1) := by decide +kernel
theorem dX1_sing_72 : decode cX1_sing 72 = .ok (.iastore, 1) := by decide +kernel
theorem dX1_sing_73 : decode cX1_sing 73 = .ok (.iinc 2 1, 3) := by decide +kernel
theorem dX1_sing_76 : decode cX1_sing 76 = .ok (.goto (-66), 3) := by decide +kernel
theorem dX1_sing_79 : decode cX1_sing 79 = .ok (.return_, 1) := by decide +kernel
theorem dX1_isFoldedNow_0 : decode cX1_isFoldedNow 0 = .ok (.aload_n 0, 1) := by decide +kernel
theorem dX1_isFoldedNow_1 : decode cX1_isFoldedNow 1 = .ok (.aload_n 0, 1) := by decide +kernel
theorem dX1_isFoldedNow_2 : decode cX1_isFoldedNow 2 = .ok (.getfield 7, 3) := by decide +kernel
theorem dX1_isFoldedNow_5 : decode cX1_isFoldedNow 5 = .ok (.invokevirtual 68, 3) := by decide +kernel
theorem dX1_isFoldedNow_8 : decode cX1_isFoldedNow 8 = .ok (.aload_n 0, 1) := by decide +kernel
theorem dX1_isFoldedNow_9 : decode cX1_isFoldedNow 9 = .ok (.getfield 26, 3) := by decide +kernel
theorem dX1_isFoldedNow_12 : decode cX1_isFoldedNow 12 = .ok (.iload_n 1, 1) := by decide +kernel
theorem dX1_isFoldedNow_13 : decode cX1_isFoldedNow 13 = .ok (.iaload, 1) := by decide +kernel
theorem dX1_isFoldedNow_14 : decode cX1_isFoldedNow 14 = .ok (.aload_n 0, 1) := by decide +kernel
theorem dX1_isFoldedNow_15 : decode cX1_isFoldedNow 15 = .ok (.getfield 7, 3) := by decide +kernel
theorem dX1_isFoldedNow_18 : decode cX1_isFoldedNow 18 = .ok (.aload_n 0, 1) := by decide +kernel
theorem dX1_isFoldedNow_19 : decode cX1_isFoldedNow 19 = .ok (.getfield 13, 3) := by decide +kernel
theorem dX1_isFoldedNow_22 : decode cX1_isFoldedNow 22 = .ok (.iload_n 1, 1) := by decide +kernel
theorem dX1_isFoldedNow_23 : decode cX1_isFoldedNow 23 = .ok (.iaload, 1) := by decide +kernel
theorem dX1_isFoldedNow_24 : decode cX1_isFoldedNow 24 = .ok (.imul, 1) := by decide +kernel
theorem dX1_isFoldedNow_25 : decode cX1_isFoldedNow 25 = .ok (.invokestatic 64, 3) := by decide +kernel
theorem dX1_isFoldedNow_28 : decode cX1_isFoldedNow 28 = .ok (.ireturn, 1) := by decide +kernel
theorem dX1_foldedNow_0 : decode cX1_foldedNow 0 = .ok (.iconst 0, 1) := by decide +kernel
theorem dX1_foldedNow_1 : decode cX1_foldedNow 1 = .ok (.istore_n 1, 1) := by decide +kernel
theorem dX1_foldedNow_2 : decode cX1_foldedNow 2 = .ok (.iconst 0, 1) := by decide +kernel
theorem dX1_foldedNow_3 : decode cX1_foldedNow 3 = .ok (.istore_n 2, 1) := by decide +kernel
theorem dX1_foldedNow_4 : decode cX1_foldedNow 4 = .ok (.iload_n 2, 1) := by decide +kernel
theorem dX1_foldedNow_5 : decode cX1_foldedNow 5 = .ok (.aload_n 0, 1) := by decide +kernel
theorem dX1_foldedNow_6 : decode cX1_foldedNow 6 = .ok (.getfield 38, 3) := by decide +kernel
theorem dX1_foldedNow_9 : decode cX1_foldedNow 9 = .ok (.if_icmp .ge 25, 3) := by decide +kernel
theorem dX1_foldedNow_12 : decode cX1_foldedNow 12 = .ok (.iload_n 1, 1) := by decide +kernel
theorem dX1_foldedNow_13 : decode cX1_foldedNow 13 = .ok (.aload_n 0, 1) := by decide +kernel
theorem dX1_foldedNow_14 : decode cX1_foldedNow 14 = .ok (.iload_n 2, 1) := by decide +kernel
theorem dX1_foldedNow_15 : decode cX1_foldedNow 15 = .ok (.invokevirtual 72, 3) := by decide +kernel
theorem dX1_foldedNow_18 : decode cX1_foldedNow 18 = .ok (.ifCond .eq 7, 3) := by decide +kernel
theorem dX1_foldedNow_21 : decode cX1_foldedNow 21 = .ok (.iconst 1, 1) := by decide +kernel
theorem dX1_foldedNow_22 : decode cX1_foldedNow 22 = .ok (.goto 4, 3) := by decide +kernel
theorem dX1_foldedNow_25 : decode cX1_foldedNow 25 = .ok (.iconst 0, 1) := by decide +kernel
theorem dX1_foldedNow_26 : decode cX1_foldedNow 26 = .ok (.iadd, 1) := by decide +kernel
theorem dX1_foldedNow_27 : decode cX1_foldedNow 27 = .ok (.istore_n 1, 1) := by decide +kernel
theorem dX1_foldedNow_28 : decode cX1_foldedNow 28 = .ok (.iinc 2 1, 3) := by decide +kernel
theorem dX1_foldedNow_31 : decode cX1_foldedNow 31 = .ok (.goto (-27), 3) := by decide +kernel
theorem dX1_foldedNow_34 : decode cX1_foldedNow 34 = .ok (.iload_n 1, 1) := by decide +kernel
theorem dX1_foldedNow_35 : decode cX1_foldedNow 35 = .ok (.ireturn, 1) := by decide +kernel
theorem dX1_isTwofold_0 : decode cX1_isTwofold 0 = .ok (.aload_n 0, 1) := by decide +kernel
theorem dX1_isTwofold_1 : decode cX1_isTwofold 1 = .ok (.getfield 13, 3) := by decide +kernel
theorem dX1_isTwofold_4 : decode cX1_isTwofold 4 = .ok (.iload_n 1, 1) := by decide +kernel
theorem dX1_isTwofold_5 : decode cX1_isTwofold 5 = .ok (.iaload, 1) := by decide +kernel
theorem dX1_isTwofold_6 : decode cX1_isTwofold 6 = .ok (.ifCond .eq 48, 3) := by decide +kernel
theorem dX1_isTwofold_9 : decode cX1_isTwofold 9 = .ok (.aload_n 0, 1) := by decide +kernel
theorem dX1_isTwofold_10 : decode cX1_isTwofold 10 = .ok (.getfield 26, 3) := by decide +kernel
theorem dX1_isTwofold_13 : decode cX1_isTwofold 13 = .ok (.iload_n 1, 1) := by decide +kernel
theorem dX1_isTwofold_14 : decode cX1_isTwofold 14 = .ok (.iaload, 1) := by decide +kernel
theorem dX1_isTwofold_15 : decode cX1_isTwofold 15 = .ok (.iload_n 2, 1) := by decide +kernel
theorem dX1_isTwofold_16 : decode cX1_isTwofold 16 = .ok (.aload_n 0, 1) := by decide +kernel
theorem dX1_isTwofold_17 : decode cX1_isTwofold 17 = .ok (.getfield 13, 3) := by decide +kernel
theorem dX1_isTwofold_20 : decode cX1_isTwofold 20 = .ok (.iload_n 1, 1) := by decide +kernel
theorem dX1_isTwofold_21 : decode cX1_isTwofold 21 = .ok (.iaload, 1) := by decide +kernel
theorem dX1_isTwofold_22 : decode cX1_isTwofold 22 = .ok (.imul, 1) := by decide +kernel
theorem dX1_isTwofold_23 : decode cX1_isTwofold 23 = .ok (.invokestatic 64, 3) := by decide +kernel
theorem dX1_isTwofold_26 : decode cX1_isTwofold 26 = .ok (.ifCond .ne 24, 3) := by decide +kernel
theorem dX1_isTwofold_29 : decode cX1_isTwofold 29 = .ok (.aload_n 0, 1) := by decide +kernel
theorem dX1_isTwofold_30 : decode cX1_isTwofold 30 = .ok (.getfield 26, 3) := by decide +kernel
theorem dX1_isTwofold_33 : decode cX1_isTwofold 33 = .ok (.iload_n 1, 1) := by decide +kernel
theorem dX1_isTwofold_34 : decode cX1_isTwofold 34 = .ok (.iaload, 1) := by decide +kernel
theorem dX1_isTwofold_35 : decode cX1_isTwofold 35 = .ok (.iload_n 2, 1) := by decide +kernel
theorem dX1_isTwofold_36 : decode cX1_isTwofold 36 = .ok (.ineg, 1) := by decide +kernel
theorem dX1_isTwofold_37 : decode cX1_isTwofold 37 = .ok (.aload_n 0, 1) := by decide +kernel
theorem dX1_isTwofold_38 : decode cX1_isTwofold 38 = .ok (.getfield 13, 3) := by decide +kernel
theorem dX1_isTwofold_41 : decode cX1_isTwofold 41 = .ok (.iload_n 1, 1) := by decide +kernel
theorem dX1_isTwofold_42 : decode cX1_isTwofold 42 = .ok (.iaload, 1) := by decide +kernel
theorem dX1_isTwofold_43 : decode cX1_isTwofold 43 = .ok (.imul, 1) := by decide +kernel
theorem dX1_isTwofold_44 : decode cX1_isTwofold 44 = .ok (.invokestatic 64, 3) := by decide +kernel
theorem dX1_isTwofold_47 : decode cX1_isTwofold 47 = .ok (.ifCond .eq 7, 3) := by decide +kernel
theorem dX1_isTwofold_50 : decode cX1_isTwofold 50 = .ok (.iconst 1, 1) := by decide +kernel
theorem dX1_isTwofold_51 : decode cX1_isTwofold 51 = .ok (.goto 4, 3) := by decide +kernel
theorem dX1_isTwofold_54 : decode cX1_isTwofold 54 = .ok (.iconst 0, 1) := by decide +kernel
theorem dX1_isTwofold_55 : decode cX1_isTwofold 55 = .ok (.ireturn, 1) := by decide +kernel
theorem dX1_alike_0 : decode cX1_alike 0 = .ok (.iconst 0, 1) := by decide +kernel
theorem dX1_alike_1 : decode cX1_alike 1 = .ok (.istore_n 2, 1) := by decide +kernel
theorem dX1_alike_2 : decode cX1_alike 2 = .ok (.iconst 0, 1) := by decide +kernel
theorem dX1_alike_3 : decode cX1_alike 3 = .ok (.istore_n 3, 1) := by decide +kernel
theorem dX1_alike_4 : decode cX1_alike 4 = .ok (.iload_n 3, 1) := by decide +kernel
theorem dX1_alike_5 : decode cX1_alike 5 = .ok (.bipush 10, 2) := by decide +kernel
theorem dX1_alike_7 : decode cX1_alike 7 = .ok (.if_icmp .ge 32, 3) := by decide +kernel
theorem dX1_alike_10 : decode cX1_alike 10 = .ok (.iload_n 2, 1) := by decide +kernel
theorem dX1_alike_11 : decode cX1_alike 11 = .ok (.aload_n 0, 1) := by decide +kernel
theorem dX1_alike_12 : decode cX1_alike 12 = .ok (.getfield 23, 3) := by decide +kernel
theorem dX1_alike_15 : decode cX1_alike 15 = .ok (.iload_n 3, 1) := by decide +kernel
theorem dX1_alike_16 : decode cX1_alike 16 = .ok (.iaload, 1) := by decide +kernel
theorem dX1_alike_17 : decode cX1_alike 17 = .ok (.aload_n 0, 1) := by decide +kernel
theorem dX1_alike_18 : decode cX1_alike 18 = .ok (.getfield 23, 3) := by decide +kernel
theorem dX1_alike_21 : decode cX1_alike 21 = .ok (.iload_n 1, 1) := by decide +kernel
theorem dX1_alike_22 : decode cX1_alike 22 = .ok (.iaload, 1) := by decide +kernel
theorem dX1_alike_23 : decode cX1_alike 23 = .ok (.if_icmp .ne 7, 3) := by decide +kernel
theorem dX1_alike_26 : decode cX1_alike 26 = .ok (.iconst 1, 1) := by decide +kernel
theorem dX1_alike_27 : decode cX1_alike 27 = .ok (.goto 4, 3) := by decide +kernel
theorem dX1_alike_30 : decode cX1_alike 30 = .ok (.iconst 0, 1) := by decide +kernel
theorem dX1_alike_31 : decode cX1_alike 31 = .ok (.iadd, 1) := by decide +kernel
theorem dX1_alike_32 : decode cX1_alike 32 = .ok (.istore_n 2, 1) := by decide +kernel
theorem dX1_alike_33 : decode cX1_alike 33 = .ok (.iinc 3 1, 3) := by decide +kernel
theorem dX1_alike_36 : decode cX1_alike 36 = .ok (.goto (-32), 3) := by decide +kernel
theorem dX1_alike_39 : decode cX1_alike 39 = .ok (.iload_n 2, 1) := by decide +kernel
theorem dX1_alike_40 : decode cX1_alike 40 = .ok (.ireturn, 1) := by decide +kernel
theorem dX1_many_0 : decode cX1_many 0 = .ok (.aload_n 0, 1) := by decide +kernel
theorem dX1_many_1 : decode cX1_many 1 = .ok (.iload_n 1, 1) := by decide +kernel
theorem dX1_many_2 : decode cX1_many 2 = .ok (.iload_n 2, 1) := by decide +kernel
theorem dX1_many_3 : decode cX1_many 3 = .ok (.invokevirtual 76, 3) := by decide +kernel
theorem dX1_many_6 : decode cX1_many 6 = .ok (.ifCond .eq 7, 3) := by decide +kernel
theorem dX1_many_9 : decode cX1_many 9 = .ok (.iconst 2, 1) := by decide +kernel
theorem dX1_many_10 : decode cX1_many 10 = .ok (.goto 4, 3) := by decide +kernel
theorem dX1_many_13 : decode cX1_many 13 = .ok (.iconst 1, 1) := by decide +kernel
theorem dX1_many_14 : decode cX1_many 14 = .ok (.aload_n 0, 1) := by decide +kernel
theorem dX1_many_15 : decode cX1_many 15 = .ok (.aload_n 0, 1) := by decide +kernel
theorem dX1_many_16 : decode cX1_many 16 = .ok (.getfield 20, 3) := by decide +kernel
theorem dX1_many_19 : decode cX1_many 19 = .ok (.iload_n 1, 1) := by decide +kernel
theorem dX1_many_20 : decode cX1_many 20 = .ok (.iaload, 1) := by decide +kernel
theorem dX1_many_21 : decode cX1_many 21 = .ok (.invokevirtual 79, 3) := by decide +kernel
theorem dX1_many_24 : decode cX1_many 24 = .ok (.imul, 1) := by decide +kernel
theorem dX1_many_25 : decode cX1_many 25 = .ok (.ireturn, 1) := by decide +kernel
theorem dX1_manyNow_0 : decode cX1_manyNow 0 = .ok (.aload_n 0, 1) := by decide +kernel
theorem dX1_manyNow_1 : decode cX1_manyNow 1 = .ok (.aload_n 0, 1) := by decide +kernel
theorem dX1_manyNow_2 : decode cX1_manyNow 2 = .ok (.getfield 7, 3) := by decide +kernel
theorem dX1_manyNow_5 : decode cX1_manyNow 5 = .ok (.invokevirtual 68, 3) := by decide +kernel
theorem dX1_manyNow_8 : decode cX1_manyNow 8 = .ok (.aload_n 0, 1) := by decide +kernel
theorem dX1_manyNow_9 : decode cX1_manyNow 9 = .ok (.iload_n 1, 1) := by decide +kernel
theorem dX1_manyNow_10 : decode cX1_manyNow 10 = .ok (.aload_n 0, 1) := by decide +kernel
theorem dX1_manyNow_11 : decode cX1_manyNow 11 = .ok (.getfield 7, 3) := by decide +kernel
theorem dX1_manyNow_14 : decode cX1_manyNow 14 = .ok (.invokevirtual 82, 3) := by decide +kernel
theorem dX1_manyNow_17 : decode cX1_manyNow 17 = .ok (.ireturn, 1) := by decide +kernel
theorem dX1_right_0 : decode cX1_right 0 = .ok (.aload_n 0, 1) := by decide +kernel
theorem dX1_right_1 : decode cX1_right 1 = .ok (.aload_n 0, 1) := by decide +kernel
theorem dX1_right_2 : decode cX1_right 2 = .ok (.getfield 7, 3) := by decide +kernel
theorem dX1_right_5 : decode cX1_right 5 = .ok (.invokevirtual 68, 3) := by decide +kernel
theorem dX1_right_8 : decode cX1_right 8 = .ok (.aload_n 0, 1) := by decide +kernel
theorem dX1_right_9 : decode cX1_right 9 = .ok (.iload_n 1, 1) := by decide +kernel
theorem dX1_right_10 : decode cX1_right 10 = .ok (.aload_n 0, 1) := by decide +kernel
theorem dX1_right_11 : decode cX1_right 11 = .ok (.getfield 7, 3) := by decide +kernel
theorem dX1_right_14 : decode cX1_right 14 = .ok (.invokevirtual 76, 3) := by decide +kernel
theorem dX1_right_17 : decode cX1_right 17 = .ok (.ifCond .eq 25, 3) := by decide +kernel
theorem dX1_right_20 : decode cX1_right 20 = .ok (.aload_n 0, 1) := by decide +kernel
theorem dX1_right_21 : decode cX1_right 21 = .ok (.getfield 13, 3) := by decide +kernel
theorem dX1_right_24 : decode cX1_right 24 = .ok (.iload_n 1, 1) := by decide +kernel
theorem dX1_right_25 : decode cX1_right 25 = .ok (.iaload, 1) := by decide +kernel
theorem dX1_right_26 : decode cX1_right 26 = .ok (.ifCond .le 16, 3) := by decide +kernel
theorem dX1_right_29 : decode cX1_right 29 = .ok (.aload_n 0, 1) := by decide +kernel
theorem dX1_right_30 : decode cX1_right 30 = .ok (.aload_n 0, 1) := by decide +kernel
theorem dX1_right_31 : decode cX1_right 31 = .ok (.getfield 20, 3) := by decide +kernel
theorem dX1_right_34 : decode cX1_right 34 = .ok (.iload_n 1, 1) := by decide +kernel
theorem dX1_right_35 : decode cX1_right 35 = .ok (.iaload, 1) := by decide +kernel
theorem dX1_right_36 : decode cX1_right 36 = .ok (.invokevirtual 79, 3) := by decide +kernel
theorem dX1_right_39 : decode cX1_right 39 = .ok (.goto 4, 3) := by decide +kernel
theorem dX1_right_42 : decode cX1_right 42 = .ok (.iconst 0, 1) := by decide +kernel
theorem dX1_right_43 : decode cX1_right 43 = .ok (.istore_n 2, 1) := by decide +kernel
theorem dX1_right_44 : decode cX1_right 44 = .ok (.iconst 0, 1) := by decide +kernel
theorem dX1_right_45 : decode cX1_right 45 = .ok (.istore_n 3, 1) := by decide +kernel
theorem dX1_right_46 : decode cX1_right 46 = .ok (.iload_n 3, 1) := by decide +kernel
theorem dX1_right_47 : decode cX1_right 47 = .ok (.aload_n 0, 1) := by decide +kernel
theorem dX1_right_48 : decode cX1_right 48 = .ok (.getfield 20, 3) := by decide +kernel
theorem dX1_right_51 : decode cX1_right 51 = .ok (.iload_n 1, 1) := by decide +kernel
theorem dX1_right_52 : decode cX1_right 52 = .ok (.iaload, 1) := by decide +kernel
theorem dX1_right_53 : decode cX1_right 53 = .ok (.if_icmp .ge 37, 3) := by decide +kernel
theorem dX1_right_56 : decode cX1_right 56 = .ok (.iload_n 2, 1) := by decide +kernel
theorem dX1_right_57 : decode cX1_right 57 = .ok (.aload_n 0, 1) := by decide +kernel
theorem dX1_right_58 : decode cX1_right 58 = .ok (.getfield 23, 3) := by decide +kernel
theorem dX1_right_61 : decode cX1_right 61 = .ok (.iload_n 3, 1) := by decide +kernel
theorem dX1_right_62 : decode cX1_right 62 = .ok (.iaload, 1) := by decide +kernel
theorem dX1_right_63 : decode cX1_right 63 = .ok (.aload_n 0, 1) := by decide +kernel
theorem dX1_right_64 : decode cX1_right 64 = .ok (.getfield 23, 3) := by decide +kernel
theorem dX1_right_67 : decode cX1_right 67 = .ok (.aload_n 0, 1) := by decide +kernel
theorem dX1_right_68 : decode cX1_right 68 = .ok (.getfield 20, 3) := by decide +kernel
theorem dX1_right_71 : decode cX1_right 71 = .ok (.iload_n 1, 1) := by decide +kernel
theorem dX1_right_72 : decode cX1_right 72 = .ok (.iaload, 1) := by decide +kernel
theorem dX1_right_73 : decode cX1_right 73 = .ok (.iaload, 1) := by decide +kernel
theorem dX1_right_74 : decode cX1_right 74 = .ok (.if_icmp .ne 7, 3) := by decide +kernel
theorem dX1_right_77 : decode cX1_right 77 = .ok (.iconst 1, 1) := by decide +kernel
theorem dX1_right_78 : decode cX1_right 78 = .ok (.goto 4, 3) := by decide +kernel
theorem dX1_right_81 : decode cX1_right 81 = .ok (.iconst 0, 1) := by decide +kernel
theorem dX1_right_82 : decode cX1_right 82 = .ok (.iadd, 1) := by decide +kernel
theorem dX1_right_83 : decode cX1_right 83 = .ok (.istore_n 2, 1) := by decide +kernel
theorem dX1_right_84 : decode cX1_right 84 = .ok (.iinc 3 1, 3) := by decide +kernel
theorem dX1_right_87 : decode cX1_right 87 = .ok (.goto (-41), 3) := by decide +kernel
theorem dX1_right_90 : decode cX1_right 90 = .ok (.iload_n 2, 1) := by decide +kernel
theorem dX1_right_91 : decode cX1_right 91 = .ok (.ireturn, 1) := by decide +kernel
theorem dX1_isMendedNow_0 : decode cX1_isMendedNow 0 = .ok (.aload_n 0, 1) := by decide +kernel
theorem dX1_isMendedNow_1 : decode cX1_isMendedNow 1 = .ok (.getfield 85, 3) := by decide +kernel
theorem dX1_isMendedNow_4 : decode cX1_isMendedNow 4 = .ok (.iload_n 1, 1) := by decide +kernel
theorem dX1_isMendedNow_5 : decode cX1_isMendedNow 5 = .ok (.ishr, 1) := by decide +kernel
theorem dX1_isMendedNow_6 : decode cX1_isMendedNow 6 = .ok (.iconst 1, 1) := by decide +kernel
theorem dX1_isMendedNow_7 : decode cX1_isMendedNow 7 = .ok (.iand, 1) := by decide +kernel
theorem dX1_isMendedNow_8 : decode cX1_isMendedNow 8 = .ok (.iconst 1, 1) := by decide +kernel
theorem dX1_isMendedNow_9 : decode cX1_isMendedNow 9 = .ok (.if_icmp .ne 7, 3) := by decide +kernel
theorem dX1_isMendedNow_12 : decode cX1_isMendedNow 12 = .ok (.iconst 1, 1) := by decide +kernel
theorem dX1_isMendedNow_13 : decode cX1_isMendedNow 13 = .ok (.goto 4, 3) := by decide +kernel
theorem dX1_isMendedNow_16 : decode cX1_isMendedNow 16 = .ok (.iconst 0, 1) := by decide +kernel
theorem dX1_isMendedNow_17 : decode cX1_isMendedNow 17 = .ok (.ireturn, 1) := by decide +kernel
theorem dX1_isOpen_0 : decode cX1_isOpen 0 = .ok (.aload_n 0, 1) := by decide +kernel
theorem dX1_isOpen_1 : decode cX1_isOpen 1 = .ok (.iload_n 1, 1) := by decide +kernel
theorem dX1_isOpen_2 : decode cX1_isOpen 2 = .ok (.invokevirtual 88, 3) := by decide +kernel
theorem dX1_isOpen_5 : decode cX1_isOpen 5 = .ok (.ifCond .ne 16, 3) := by decide +kernel
theorem dX1_isOpen_8 : decode cX1_isOpen 8 = .ok (.aload_n 0, 1) := by decide +kernel
theorem dX1_isOpen_9 : decode cX1_isOpen 9 = .ok (.iload_n 1, 1) := by decide +kernel
theorem dX1_isOpen_10 : decode cX1_isOpen 10 = .ok (.invokevirtual 91, 3) := by decide +kernel
theorem dX1_isOpen_13 : decode cX1_isOpen 13 = .ok (.iconst 1, 1) := by decide +kernel
theorem dX1_isOpen_14 : decode cX1_isOpen 14 = .ok (.if_icmp .le 7, 3) := by decide +kernel
theorem dX1_isOpen_17 : decode cX1_isOpen 17 = .ok (.iconst 1, 1) := by decide +kernel
theorem dX1_isOpen_18 : decode cX1_isOpen 18 = .ok (.goto 4, 3) := by decide +kernel
theorem dX1_isOpen_21 : decode cX1_isOpen 21 = .ok (.iconst 0, 1) := by decide +kernel
theorem dX1_isOpen_22 : decode cX1_isOpen 22 = .ok (.ireturn, 1) := by decide +kernel
theorem dX1_open_0 : decode cX1_open 0 = .ok (.iconst 0, 1) := by decide +kernel
theorem dX1_open_1 : decode cX1_open 1 = .ok (.istore_n 1, 1) := by decide +kernel
theorem dX1_open_2 : decode cX1_open 2 = .ok (.iconst 0, 1) := by decide +kernel
theorem dX1_open_3 : decode cX1_open 3 = .ok (.istore_n 2, 1) := by decide +kernel
theorem dX1_open_4 : decode cX1_open 4 = .ok (.iload_n 2, 1) := by decide +kernel
theorem dX1_open_5 : decode cX1_open 5 = .ok (.aload_n 0, 1) := by decide +kernel
theorem dX1_open_6 : decode cX1_open 6 = .ok (.getfield 38, 3) := by decide +kernel
theorem dX1_open_9 : decode cX1_open 9 = .ok (.if_icmp .ge 25, 3) := by decide +kernel
theorem dX1_open_12 : decode cX1_open 12 = .ok (.iload_n 1, 1) := by decide +kernel
theorem dX1_open_13 : decode cX1_open 13 = .ok (.aload_n 0, 1) := by decide +kernel
theorem dX1_open_14 : decode cX1_open 14 = .ok (.iload_n 2, 1) := by decide +kernel
theorem dX1_open_15 : decode cX1_open 15 = .ok (.invokevirtual 94, 3) := by decide +kernel
theorem dX1_open_18 : decode cX1_open 18 = .ok (.ifCond .eq 7, 3) := by decide +kernel
theorem dX1_open_21 : decode cX1_open 21 = .ok (.iconst 1, 1) := by decide +kernel
theorem dX1_open_22 : decode cX1_open 22 = .ok (.goto 4, 3) := by decide +kernel
theorem dX1_open_25 : decode cX1_open 25 = .ok (.iconst 0, 1) := by decide +kernel
theorem dX1_open_26 : decode cX1_open 26 = .ok (.iadd, 1) := by decide +kernel
theorem dX1_open_27 : decode cX1_open 27 = .ok (.istore_n 1, 1) := by decide +kernel
theorem dX1_open_28 : decode cX1_open 28 = .ok (.iinc 2 1, 3) := by decide +kernel
theorem dX1_open_31 : decode cX1_open 31 = .ok (.goto (-27), 3) := by decide +kernel
theorem dX1_open_34 : decode cX1_open 34 = .ok (.iload_n 1, 1) := by decide +kernel
theorem dX1_open_35 : decode cX1_open 35 = .ok (.ireturn, 1) := by decide +kernel
theorem dX1_all_0 : decode cX1_all 0 = .ok (.lconst 1, 1) := by decide +kernel
theorem dX1_all_1 : decode cX1_all 1 = .ok (.lstore_n 1, 1) := by decide +kernel
theorem dX1_all_2 : decode cX1_all 2 = .ok (.iconst 0, 1) := by decide +kernel
theorem dX1_all_3 : decode cX1_all 3 = .ok (.istore_n 3, 1) := by decide +kernel
theorem dX1_all_4 : decode cX1_all 4 = .ok (.iload_n 3, 1) := by decide +kernel
theorem dX1_all_5 : decode cX1_all 5 = .ok (.aload_n 0, 1) := by decide +kernel
theorem dX1_all_6 : decode cX1_all 6 = .ok (.getfield 38, 3) := by decide +kernel
theorem dX1_all_9 : decode cX1_all 9 = .ok (.if_icmp .ge 32, 3) := by decide +kernel
theorem dX1_all_12 : decode cX1_all 12 = .ok (.aload_n 0, 1) := by decide +kernel
theorem dX1_all_13 : decode cX1_all 13 = .ok (.iload_n 3, 1) := by decide +kernel
theorem dX1_all_14 : decode cX1_all 14 = .ok (.invokevirtual 94, 3) := by decide +kernel
theorem dX1_all_17 : decode cX1_all 17 = .ok (.ifCond .eq 18, 3) := by decide +kernel
theorem dX1_all_20 : decode cX1_all 20 = .ok (.ldc2_w 97, 3) := by decide +kernel
theorem dX1_all_23 : decode cX1_all 23 = .ok (.lload_n 1, 1) := by decide +kernel
theorem dX1_all_24 : decode cX1_all 24 = .ok (.aload_n 0, 1) := by decide +kernel
theorem dX1_all_25 : decode cX1_all 25 = .ok (.iload_n 3, 1) := by decide +kernel
theorem dX1_all_26 : decode cX1_all 26 = .ok (.invokevirtual 91, 3) := by decide +kernel
theorem dX1_all_29 : decode cX1_all 29 = .ok (.i2l, 1) := by decide +kernel
theorem dX1_all_30 : decode cX1_all 30 = .ok (.lmul, 1) := by decide +kernel
theorem dX1_all_31 : decode cX1_all 31 = .ok (.invokestatic 99, 3) := by decide +kernel
theorem dX1_all_34 : decode cX1_all 34 = .ok (.lstore_n 1, 1) := by decide +kernel
theorem dX1_all_35 : decode cX1_all 35 = .ok (.iinc 3 1, 3) := by decide +kernel
theorem dX1_all_38 : decode cX1_all 38 = .ok (.goto (-34), 3) := by decide +kernel
theorem dX1_all_41 : decode cX1_all 41 = .ok (.lload_n 1, 1) := by decide +kernel
theorem dX1_all_42 : decode cX1_all 42 = .ok (.lreturn, 1) := by decide +kernel
theorem dX1_openBy_0 : decode cX1_openBy 0 = .ok (.aload_n 0, 1) := by decide +kernel
theorem dX1_openBy_1 : decode cX1_openBy 1 = .ok (.iload_n 1, 1) := by decide +kernel
theorem dX1_openBy_2 : decode cX1_openBy 2 = .ok (.invokevirtual 68, 3) := by decide +kernel
theorem dX1_openBy_5 : decode cX1_openBy 5 = .ok (.iconst 0, 1) := by decide +kernel
theorem dX1_openBy_6 : decode cX1_openBy 6 = .ok (.istore_n 2, 1) := by decide +kernel
theorem dX1_openBy_7 : decode cX1_openBy 7 = .ok (.iconst 0, 1) := by decide +kernel
theorem dX1_openBy_8 : decode cX1_openBy 8 = .ok (.istore_n 3, 1) := by decide +kernel
theorem dX1_openBy_9 : decode cX1_openBy 9 = .ok (.iload_n 3, 1) := by decide +kernel
theorem dX1_openBy_10 : decode cX1_openBy 10 = .ok (.aload_n 0, 1) := by decide +kernel
theorem dX1_openBy_11 : decode cX1_openBy 11 = .ok (.getfield 38, 3) := by decide +kernel
theorem dX1_openBy_14 : decode cX1_openBy 14 = .ok (.if_icmp .ge 27, 3) := by decide +kernel
theorem dX1_openBy_17 : decode cX1_openBy 17 = .ok (.iload_n 2, 1) := by decide +kernel
theorem dX1_openBy_18 : decode cX1_openBy 18 = .ok (.aload_n 0, 1) := by decide +kernel
theorem dX1_openBy_19 : decode cX1_openBy 19 = .ok (.iload_n 3, 1) := by decide +kernel
theorem dX1_openBy_20 : decode cX1_openBy 20 = .ok (.iload_n 1, 1) := by decide +kernel
theorem dX1_openBy_21 : decode cX1_openBy 21 = .ok (.invokevirtual 82, 3) := by decide +kernel
theorem dX1_openBy_24 : decode cX1_openBy 24 = .ok (.iconst 1, 1) := by decide +kernel
theorem dX1_openBy_25 : decode cX1_openBy 25 = .ok (.if_icmp .le 7, 3) := by decide +kernel
theorem dX1_openBy_28 : decode cX1_openBy 28 = .ok (.iconst 1, 1) := by decide +kernel
theorem dX1_openBy_29 : decode cX1_openBy 29 = .ok (.goto 4, 3) := by decide +kernel
theorem dX1_openBy_32 : decode cX1_openBy 32 = .ok (.iconst 0, 1) := by decide +kernel
theorem dX1_openBy_33 : decode cX1_openBy 33 = .ok (.iadd, 1) := by decide +kernel
theorem dX1_openBy_34 : decode cX1_openBy 34 = .ok (.istore_n 2, 1) := by decide +kernel
theorem dX1_openBy_35 : decode cX1_openBy 35 = .ok (.iinc 3 1, 3) := by decide +kernel
theorem dX1_openBy_38 : decode cX1_openBy 38 = .ok (.goto (-29), 3) := by decide +kernel
theorem dX1_openBy_41 : decode cX1_openBy 41 = .ok (.iload_n 2, 1) := by decide +kernel
theorem dX1_openBy_42 : decode cX1_openBy 42 = .ok (.ireturn, 1) := by decide +kernel
theorem dX1_openWith_0 : decode cX1_openWith 0 = .ok (.aload_n 0, 1) := by decide +kernel
theorem dX1_openWith_1 : decode cX1_openWith 1 = .ok (.getfield 23, 3) := by decide +kernel
theorem dX1_openWith_4 : decode cX1_openWith 4 = .ok (.iload_n 1, 1) := by decide +kernel
theorem dX1_openWith_5 : decode cX1_openWith 5 = .ok (.iaload, 1) := by decide +kernel
theorem dX1_openWith_6 : decode cX1_openWith 6 = .ok (.istore_n 3, 1) := by decide +kernel
theorem dX1_openWith_7 : decode cX1_openWith 7 = .ok (.aload_n 0, 1) := by decide +kernel
theorem dX1_openWith_8 : decode cX1_openWith 8 = .ok (.getfield 23, 3) := by decide +kernel
theorem dX1_openWith_11 : decode cX1_openWith 11 = .ok (.iload_n 1, 1) := by decide +kernel
theorem dX1_openWith_12 : decode cX1_openWith 12 = .ok (.iload_n 2, 1) := by decide +kernel
theorem dX1_openWith_13 : decode cX1_openWith 13 = .ok (.iastore, 1) := by decide +kernel
theorem dX1_openWith_14 : decode cX1_openWith 14 = .ok (.aload_n 0, 1) := by decide +kernel
theorem dX1_openWith_15 : decode cX1_openWith 15 = .ok (.aload_n 0, 1) := by decide +kernel
theorem dX1_openWith_16 : decode cX1_openWith 16 = .ok (.getfield 7, 3) := by decide +kernel
theorem dX1_openWith_19 : decode cX1_openWith 19 = .ok (.invokevirtual 103, 3) := by decide +kernel
theorem dX1_openWith_22 : decode cX1_openWith 22 = .ok (.istore 4, 2) := by decide +kernel
theorem dX1_openWith_24 : decode cX1_openWith 24 = .ok (.aload_n 0, 1) := by decide +kernel
theorem dX1_openWith_25 : decode cX1_openWith 25 = .ok (.getfield 23, 3) := by decide +kernel
theorem dX1_openWith_28 : decode cX1_openWith 28 = .ok (.iload_n 1, 1) := by decide +kernel
theorem dX1_openWith_29 : decode cX1_openWith 29 = .ok (.iload_n 3, 1) := by decide +kernel
theorem dX1_openWith_30 : decode cX1_openWith 30 = .ok (.iastore, 1) := by decide +kernel
theorem dX1_openWith_31 : decode cX1_openWith 31 = .ok (.iload 4, 2) := by decide +kernel
theorem dX1_openWith_33 : decode cX1_openWith 33 = .ok (.ireturn, 1) := by decide +kernel
theorem dX1_wordFor_0 : decode cX1_wordFor 0 = .ok (.iconst 0, 1) := by decide +kernel
theorem dX1_wordFor_1 : decode cX1_wordFor 1 = .ok (.istore_n 2, 1) := by decide +kernel
theorem dX1_wordFor_2 : decode cX1_wordFor 2 = .ok (.iconst 1, 1) := by decide +kernel
theorem dX1_wordFor_3 : decode cX1_wordFor 3 = .ok (.istore_n 3, 1) := by decide +kernel
theorem dX1_wordFor_4 : decode cX1_wordFor 4 = .ok (.iload_n 3, 1) := by decide +kernel
theorem dX1_wordFor_5 : decode cX1_wordFor 5 = .ok (.bipush 10, 2) := by decide +kernel
theorem dX1_wordFor_7 : decode cX1_wordFor 7 = .ok (.if_icmp .ge 26, 3) := by decide +kernel
theorem dX1_wordFor_10 : decode cX1_wordFor 10 = .ok (.aload_n 0, 1) := by decide +kernel
theorem dX1_wordFor_11 : decode cX1_wordFor 11 = .ok (.iload_n 1, 1) := by decide +kernel
theorem dX1_wordFor_12 : decode cX1_wordFor 12 = .ok (.iload_n 3, 1) := by decide +kernel
theorem dX1_wordFor_13 : decode cX1_wordFor 13 = .ok (.invokevirtual 106, 3) := by decide +kernel
theorem dX1_wordFor_16 : decode cX1_wordFor 16 = .ok (.aload_n 0, 1) := by decide +kernel
theorem dX1_wordFor_17 : decode cX1_wordFor 17 = .ok (.iload_n 1, 1) := by decide +kernel
theorem dX1_wordFor_18 : decode cX1_wordFor 18 = .ok (.iload_n 2, 1) := by decide +kernel
theorem dX1_wordFor_19 : decode cX1_wordFor 19 = .ok (.invokevirtual 106, 3) := by decide +kernel
theorem dX1_wordFor_22 : decode cX1_wordFor 22 = .ok (.if_icmp .ge 5, 3) := by decide +kernel
theorem dX1_wordFor_25 : decode cX1_wordFor 25 = .ok (.iload_n 3, 1) := by decide +kernel
theorem dX1_wordFor_26 : decode cX1_wordFor 26 = .ok (.istore_n 2, 1) := by decide +kernel
theorem dX1_wordFor_27 : decode cX1_wordFor 27 = .ok (.iinc 3 1, 3) := by decide +kernel
theorem dX1_wordFor_30 : decode cX1_wordFor 30 = .ok (.goto (-26), 3) := by decide +kernel
theorem dX1_wordFor_33 : decode cX1_wordFor 33 = .ok (.iload_n 2, 1) := by decide +kernel
theorem dX1_wordFor_34 : decode cX1_wordFor 34 = .ok (.ireturn, 1) := by decide +kernel
theorem dX1_stepFor_0 : decode cX1_stepFor 0 = .ok (.iconst 1, 1) := by decide +kernel
theorem dX1_stepFor_1 : decode cX1_stepFor 1 = .ok (.istore_n 1, 1) := by decide +kernel
theorem dX1_stepFor_2 : decode cX1_stepFor 2 = .ok (.iconst 2, 1) := by decide +kernel
theorem dX1_stepFor_3 : decode cX1_stepFor 3 = .ok (.istore_n 2, 1) := by decide +kernel
theorem dX1_stepFor_4 : decode cX1_stepFor 4 = .ok (.iload_n 2, 1) := by decide +kernel
theorem dX1_stepFor_5 : decode cX1_stepFor 5 = .ok (.iconst 4, 1) := by decide +kernel
theorem dX1_stepFor_6 : decode cX1_stepFor 6 = .ok (.if_icmp .gt 24, 3) := by decide +kernel
theorem dX1_stepFor_9 : decode cX1_stepFor 9 = .ok (.aload_n 0, 1) := by decide +kernel
theorem dX1_stepFor_10 : decode cX1_stepFor 10 = .ok (.iload_n 2, 1) := by decide +kernel
theorem dX1_stepFor_11 : decode cX1_stepFor 11 = .ok (.invokevirtual 103, 3) := by decide +kernel
theorem dX1_stepFor_14 : decode cX1_stepFor 14 = .ok (.aload_n 0, 1) := by decide +kernel
theorem dX1_stepFor_15 : decode cX1_stepFor 15 = .ok (.iload_n 1, 1) := by decide +kernel
theorem dX1_stepFor_16 : decode cX1_stepFor 16 = .ok (.invokevirtual 103, 3) := by decide +kernel
theorem dX1_stepFor_19 : decode cX1_stepFor 19 = .ok (.if_icmp .ge 5, 3) := by decide +kernel
theorem dX1_stepFor_22 : decode cX1_stepFor 22 = .ok (.iload_n 2, 1) := by decide +kernel
theorem dX1_stepFor_23 : decode cX1_stepFor 23 = .ok (.istore_n 1, 1) := by decide +kernel
theorem dX1_stepFor_24 : decode cX1_stepFor 24 = .ok (.iinc 2 1, 3) := by decide +kernel
theorem dX1_stepFor_27 : decode cX1_stepFor 27 = .ok (.goto (-23), 3) := by decide +kernel
theorem dX1_stepFor_30 : decode cX1_stepFor 30 = .ok (.iload_n 1, 1) := by decide +kernel
theorem dX1_stepFor_31 : decode cX1_stepFor 31 = .ok (.ireturn, 1) := by decide +kernel
theorem dX1_addLeg_0 : decode cX1_addLeg 0 = .ok (.aload_n 0, 1) := by decide +kernel
theorem dX1_addLeg_1 : decode cX1_addLeg 1 = .ok (.iconst 0, 1) := by decide +kernel
theorem dX1_addLeg_2 : decode cX1_addLeg 2 = .ok (.putfield 35, 3) := by decide +kernel
theorem dX1_addLeg_5 : decode cX1_addLeg 5 = .ok (.iload_n 1, 1) := by decide +kernel
theorem dX1_addLeg_6 : decode cX1_addLeg 6 = .ok (.bipush (-3), 2) := by decide +kernel
theorem dX1_addLeg_8 : decode cX1_addLeg 8 = .ok (.iconst 3, 1) := by decide +kernel
theorem dX1_addLeg_9 : decode cX1_addLeg 9 = .ok (.invokestatic 41, 3) := by decide +kernel
theorem dX1_addLeg_12 : decode cX1_addLeg 12 = .ok (.ifCond .eq 20, 3) := by decide +kernel
theorem dX1_addLeg_15 : decode cX1_addLeg 15 = .ok (.iload_n 2, 1) := by decide +kernel
theorem dX1_addLeg_16 : decode cX1_addLeg 16 = .ok (.iconst 1, 1) := by decide +kernel
theorem dX1_addLeg_17 : decode cX1_addLeg 17 = .ok (.bipush 9, 2) := by decide +kernel
theorem dX1_addLeg_19 : decode cX1_addLeg 19 = .ok (.invokestatic 41, 3) := by decide +kernel
theorem dX1_addLeg_22 : decode cX1_addLeg 22 = .ok (.ifCond .eq 10, 3) := by decide +kernel
theorem dX1_addLeg_25 : decode cX1_addLeg 25 = .ok (.iload_n 3, 1) := by decide +kernel
theorem dX1_addLeg_26 : decode cX1_addLeg 26 = .ok (.invokestatic 109, 3) := by decide +kernel
theorem dX1_addLeg_29 : decode cX1_addLeg 29 = .ok (.ifCond .ne 9, 3) := by decide +kernel
theorem dX1_addLeg_32 : decode cX1_addLeg 32 = .ok (.aload_n 0, 1) := by decide +kernel
theorem dX1_addLeg_33 : decode cX1_addLeg 33 = .ok (.iconst 1, 1) := by decide +kernel
theorem dX1_addLeg_34 : decode cX1_addLeg 34 = .ok (.invokevirtual 112, 3) := by decide +kernel
theorem dX1_addLeg_37 : decode cX1_addLeg 37 = .ok (.ireturn, 1) := by decide +kernel
theorem dX1_addLeg_38 : decode cX1_addLeg 38 = .ok (.aload_n 0, 1) := by decide +kernel
theorem dX1_addLeg_39 : decode cX1_addLeg 39 = .ok (.getfield 38, 3) := by decide +kernel
theorem dX1_addLeg_42 : decode cX1_addLeg 42 = .ok (.bipush 16, 2) := by decide +kernel
theorem dX1_addLeg_44 : decode cX1_addLeg 44 = .ok (.if_icmp .ne 9, 3) := by decide +kernel
theorem dX1_addLeg_47 : decode cX1_addLeg 47 = .ok (.aload_n 0, 1) := by decide +kernel
theorem dX1_addLeg_48 : decode cX1_addLeg 48 = .ok (.iconst 2, 1) := by decide +kernel
theorem dX1_addLeg_49 : decode cX1_addLeg 49 = .ok (.invokevirtual 112, 3) := by decide +kernel
theorem dX1_addLeg_52 : decode cX1_addLeg 52 = .ok (.ireturn, 1) := by decide +kernel
theorem dX1_addLeg_53 : decode cX1_addLeg 53 = .ok (.aload_n 0, 1) := by decide +kernel
theorem dX1_addLeg_54 : decode cX1_addLeg 54 = .ok (.getfield 13, 3) := by decide +kernel
theorem dX1_addLeg_57 : decode cX1_addLeg 57 = .ok (.aload_n 0, 1) := by decide +kernel
theorem dX1_addLeg_58 : decode cX1_addLeg 58 = .ok (.getfield 38, 3) := by decide +kernel
theorem dX1_addLeg_61 : decode cX1_addLeg 61 = .ok (.iload_n 1, 1) := by decide +kernel
theorem dX1_addLeg_62 : decode cX1_addLeg 62 = .ok (.iastore, 1) := by decide +kernel
theorem dX1_addLeg_63 : decode cX1_addLeg 63 = .ok (.aload_n 0, 1) := by decide +kernel
theorem dX1_addLeg_64 : decode cX1_addLeg 64 = .ok (.getfield 17, 3) := by decide +kernel
theorem dX1_addLeg_67 : decode cX1_addLeg 67 = .ok (.aload_n 0, 1) := by decide +kernel
theorem dX1_addLeg_68 : decode cX1_addLeg 68 = .ok (.getfield 38, 3) := by decide +kernel
theorem dX1_addLeg_71 : decode cX1_addLeg 71 = .ok (.iload_n 2, 1) := by decide +kernel
theorem dX1_addLeg_72 : decode cX1_addLeg 72 = .ok (.iastore, 1) := by decide +kernel
theorem dX1_addLeg_73 : decode cX1_addLeg 73 = .ok (.aload_n 0, 1) := by decide +kernel
theorem dX1_addLeg_74 : decode cX1_addLeg 74 = .ok (.getfield 20, 3) := by decide +kernel
theorem dX1_addLeg_77 : decode cX1_addLeg 77 = .ok (.aload_n 0, 1) := by decide +kernel
theorem dX1_addLeg_78 : decode cX1_addLeg 78 = .ok (.getfield 38, 3) := by decide +kernel
theorem dX1_addLeg_81 : decode cX1_addLeg 81 = .ok (.iload_n 3, 1) := by decide +kernel
theorem dX1_addLeg_82 : decode cX1_addLeg 82 = .ok (.iastore, 1) := by decide +kernel
theorem dX1_addLeg_83 : decode cX1_addLeg 83 = .ok (.aload_n 0, 1) := by decide +kernel
theorem dX1_addLeg_84 : decode cX1_addLeg 84 = .ok (.dup, 1) := by decide +kernel
theorem dX1_addLeg_85 : decode cX1_addLeg 85 = .ok (.getfield 38, 3) := by decide +kernel
theorem dX1_addLeg_88 : decode cX1_addLeg 88 = .ok (.iconst 1, 1) := by decide +kernel
theorem dX1_addLeg_89 : decode cX1_addLeg 89 = .ok (.iadd, 1) := by decide +kernel
theorem dX1_addLeg_90 : decode cX1_addLeg 90 = .ok (.putfield 38, 3) := by decide +kernel
theorem dX1_addLeg_93 : decode cX1_addLeg 93 = .ok (.aload_n 0, 1) := by decide +kernel
theorem dX1_addLeg_94 : decode cX1_addLeg 94 = .ok (.getfield 38, 3) := by decide +kernel
theorem dX1_addLeg_97 : decode cX1_addLeg 97 = .ok (.iconst 1, 1) := by decide +kernel
theorem dX1_addLeg_98 : decode cX1_addLeg 98 = .ok (.isub, 1) := by decide +kernel
theorem dX1_addLeg_99 : decode cX1_addLeg 99 = .ok (.ireturn, 1) := by decide +kernel
theorem dX1_strikeLeg_0 : decode cX1_strikeLeg 0 = .ok (.aload_n 0, 1) := by decide +kernel
theorem dX1_strikeLeg_1 : decode cX1_strikeLeg 1 = .ok (.iconst 0, 1) := by decide +kernel
theorem dX1_strikeLeg_2 : decode cX1_strikeLeg 2 = .ok (.putfield 35, 3) := by decide +kernel
theorem dX1_strikeLeg_5 : decode cX1_strikeLeg 5 = .ok (.aload_n 0, 1) := by decide +kernel
theorem dX1_strikeLeg_6 : decode cX1_strikeLeg 6 = .ok (.getfield 38, 3) := by decide +kernel
theorem dX1_strikeLeg_9 : decode cX1_strikeLeg 9 = .ok (.ifCond .ne 9, 3) := by decide +kernel
theorem dX1_strikeLeg_12 : decode cX1_strikeLeg 12 = .ok (.aload_n 0, 1) := by decide +kernel
theorem dX1_strikeLeg_13 : decode cX1_strikeLeg 13 = .ok (.iconst 1, 1) := by decide +kernel
theorem dX1_strikeLeg_14 : decode cX1_strikeLeg 14 = .ok (.invokevirtual 112, 3) := by decide +kernel
theorem dX1_strikeLeg_17 : decode cX1_strikeLeg 17 = .ok (.ireturn, 1) := by decide +kernel
theorem dX1_strikeLeg_18 : decode cX1_strikeLeg 18 = .ok (.aload_n 0, 1) := by decide +kernel
theorem dX1_strikeLeg_19 : decode cX1_strikeLeg 19 = .ok (.dup, 1) := by decide +kernel
theorem dX1_strikeLeg_20 : decode cX1_strikeLeg 20 = .ok (.getfield 38, 3) := by decide +kernel
theorem dX1_strikeLeg_23 : decode cX1_strikeLeg 23 = .ok (.iconst 1, 1) := by decide +kernel
theorem dX1_strikeLeg_24 : decode cX1_strikeLeg 24 = .ok (.isub, 1) := by decide +kernel
theorem dX1_strikeLeg_25 : decode cX1_strikeLeg 25 = .ok (.putfield 38, 3) := by decide +kernel
theorem dX1_strikeLeg_28 : decode cX1_strikeLeg 28 = .ok (.aload_n 0, 1) := by decide +kernel
theorem dX1_strikeLeg_29 : decode cX1_strikeLeg 29 = .ok (.dup, 1) := by decide +kernel
theorem dX1_strikeLeg_30 : decode cX1_strikeLeg 30 = .ok (.getfield 85, 3) := by decide +kernel
theorem dX1_strikeLeg_33 : decode cX1_strikeLeg 33 = .ok (.iconst 1, 1) := by decide +kernel
theorem dX1_strikeLeg_34 : decode cX1_strikeLeg 34 = .ok (.aload_n 0, 1) := by decide +kernel
theorem dX1_strikeLeg_35 : decode cX1_strikeLeg 35 = .ok (.getfield 38, 3) := by decide +kernel
theorem dX1_strikeLeg_38 : decode cX1_strikeLeg 38 = .ok (.ishl, 1) := by decide +kernel
theorem dX1_strikeLeg_39 : decode cX1_strikeLeg 39 = .ok (.iconst (-1), 1) := by decide +kernel
theorem dX1_strikeLeg_40 : decode cX1_strikeLeg 40 = .ok (.ixor, 1) := by decide +kernel
theorem dX1_strikeLeg_41 : decode cX1_strikeLeg 41 = .ok (.iand, 1) := by decide +kernel
theorem dX1_strikeLeg_42 : decode cX1_strikeLeg 42 = .ok (.putfield 85, 3) := by decide +kernel
theorem dX1_strikeLeg_45 : decode cX1_strikeLeg 45 = .ok (.aload_n 0, 1) := by decide +kernel
theorem dX1_strikeLeg_46 : decode cX1_strikeLeg 46 = .ok (.getfield 20, 3) := by decide +kernel
theorem dX1_strikeLeg_49 : decode cX1_strikeLeg 49 = .ok (.aload_n 0, 1) := by decide +kernel
theorem dX1_strikeLeg_50 : decode cX1_strikeLeg 50 = .ok (.getfield 38, 3) := by decide +kernel
theorem dX1_strikeLeg_53 : decode cX1_strikeLeg 53 = .ok (.iaload, 1) := by decide +kernel
theorem dX1_strikeLeg_54 : decode cX1_strikeLeg 54 = .ok (.ireturn, 1) := by decide +kernel
theorem dX1_bend_0 : decode cX1_bend 0 = .ok (.aload_n 0, 1) := by decide +kernel
theorem dX1_bend_1 : decode cX1_bend 1 = .ok (.iconst 0, 1) := by decide +kernel
theorem dX1_bend_2 : decode cX1_bend 2 = .ok (.putfield 35, 3) := by decide +kernel
theorem dX1_bend_5 : decode cX1_bend 5 = .ok (.aload_n 0, 1) := by decide +kernel
theorem dX1_bend_6 : decode cX1_bend 6 = .ok (.iload_n 1, 1) := by decide +kernel
theorem dX1_bend_7 : decode cX1_bend 7 = .ok (.invokevirtual 115, 3) := by decide +kernel
theorem dX1_bend_10 : decode cX1_bend 10 = .ok (.ifCond .ne 9, 3) := by decide +kernel
theorem dX1_bend_13 : decode cX1_bend 13 = .ok (.aload_n 0, 1) := by decide +kernel
theorem dX1_bend_14 : decode cX1_bend 14 = .ok (.iconst 1, 1) := by decide +kernel
theorem dX1_bend_15 : decode cX1_bend 15 = .ok (.invokevirtual 112, 3) := by decide +kernel
theorem dX1_bend_18 : decode cX1_bend 18 = .ok (.ireturn, 1) := by decide +kernel
theorem dX1_bend_19 : decode cX1_bend 19 = .ok (.iload_n 2, 1) := by decide +kernel
theorem dX1_bend_20 : decode cX1_bend 20 = .ok (.bipush (-3), 2) := by decide +kernel
theorem dX1_bend_22 : decode cX1_bend 22 = .ok (.iconst 3, 1) := by decide +kernel
theorem dX1_bend_23 : decode cX1_bend 23 = .ok (.invokestatic 41, 3) := by decide +kernel
theorem dX1_bend_26 : decode cX1_bend 26 = .ok (.ifCond .ne 9, 3) := by decide +kernel
theorem dX1_bend_29 : decode cX1_bend 29 = .ok (.aload_n 0, 1) := by decide +kernel
theorem dX1_bend_30 : decode cX1_bend 30 = .ok (.iconst 2, 1) := by decide +kernel
theorem dX1_bend_31 : decode cX1_bend 31 = .ok (.invokevirtual 112, 3) := by decide +kernel
theorem dX1_bend_34 : decode cX1_bend 34 = .ok (.ireturn, 1) := by decide +kernel
theorem dX1_bend_35 : decode cX1_bend 35 = .ok (.aload_n 0, 1) := by decide +kernel
theorem dX1_bend_36 : decode cX1_bend 36 = .ok (.getfield 13, 3) := by decide +kernel
theorem dX1_bend_39 : decode cX1_bend 39 = .ok (.iload_n 1, 1) := by decide +kernel
theorem dX1_bend_40 : decode cX1_bend 40 = .ok (.iaload, 1) := by decide +kernel
theorem dX1_bend_41 : decode cX1_bend 41 = .ok (.istore_n 3, 1) := by decide +kernel
theorem dX1_bend_42 : decode cX1_bend 42 = .ok (.aload_n 0, 1) := by decide +kernel
theorem dX1_bend_43 : decode cX1_bend 43 = .ok (.getfield 13, 3) := by decide +kernel
theorem dX1_bend_46 : decode cX1_bend 46 = .ok (.iload_n 1, 1) := by decide +kernel
theorem dX1_bend_47 : decode cX1_bend 47 = .ok (.iload_n 2, 1) := by decide +kernel
theorem dX1_bend_48 : decode cX1_bend 48 = .ok (.iastore, 1) := by decide +kernel
theorem dX1_bend_49 : decode cX1_bend 49 = .ok (.aload_n 0, 1) := by decide +kernel
theorem dX1_bend_50 : decode cX1_bend 50 = .ok (.iconst 0, 1) := by decide +kernel
theorem dX1_bend_51 : decode cX1_bend 51 = .ok (.putfield 85, 3) := by decide +kernel
theorem dX1_bend_54 : decode cX1_bend 54 = .ok (.iload_n 3, 1) := by decide +kernel
theorem dX1_bend_55 : decode cX1_bend 55 = .ok (.ireturn, 1) := by decide +kernel
theorem dX1_setWord_0 : decode cX1_setWord 0 = .ok (.aload_n 0, 1) := by decide +kernel
theorem dX1_setWord_1 : decode cX1_setWord 1 = .ok (.iconst 0, 1) := by decide +kernel
theorem dX1_setWord_2 : decode cX1_setWord 2 = .ok (.putfield 35, 3) := by decide +kernel
theorem dX1_setWord_5 : decode cX1_setWord 5 = .ok (.iload_n 1, 1) := by decide +kernel
theorem dX1_setWord_6 : decode cX1_setWord 6 = .ok (.invokestatic 109, 3) := by decide +kernel
theorem dX1_setWord_9 : decode cX1_setWord 9 = .ok (.ifCond .ne 9, 3) := by decide +kernel
theorem dX1_setWord_12 : decode cX1_setWord 12 = .ok (.aload_n 0, 1) := by decide +kernel
theorem dX1_setWord_13 : decode cX1_setWord 13 = .ok (.iconst 1, 1) := by decide +kernel
theorem dX1_setWord_14 : decode cX1_setWord 14 = .ok (.invokevirtual 112, 3) := by decide +kernel
theorem dX1_setWord_17 : decode cX1_setWord 17 = .ok (.ireturn, 1) := by decide +kernel
theorem dX1_setWord_18 : decode cX1_setWord 18 = .ok (.iload_n 2, 1) := by decide +kernel
theorem dX1_setWord_19 : decode cX1_setWord 19 = .ok (.invokestatic 109, 3) := by decide +kernel
theorem dX1_setWord_22 : decode cX1_setWord 22 = .ok (.ifCond .ne 9, 3) := by decide +kernel
theorem dX1_setWord_25 : decode cX1_setWord 25 = .ok (.aload_n 0, 1) := by decide +kernel
theorem dX1_setWord_26 : decode cX1_setWord 26 = .ok (.iconst 2, 1) := by decide +kernel
theorem dX1_setWord_27 : decode cX1_setWord 27 = .ok (.invokevirtual 112, 3) := by decide +kernel
theorem dX1_setWord_30 : decode cX1_setWord 30 = .ok (.ireturn, 1) := by decide +kernel
theorem dX1_setWord_31 : decode cX1_setWord 31 = .ok (.aload_n 0, 1) := by decide +kernel
theorem dX1_setWord_32 : decode cX1_setWord 32 = .ok (.getfield 23, 3) := by decide +kernel
theorem dX1_setWord_35 : decode cX1_setWord 35 = .ok (.iload_n 1, 1) := by decide +kernel
theorem dX1_setWord_36 : decode cX1_setWord 36 = .ok (.iaload, 1) := by decide +kernel
theorem dX1_setWord_37 : decode cX1_setWord 37 = .ok (.istore_n 3, 1) := by decide +kernel
theorem dX1_setWord_38 : decode cX1_setWord 38 = .ok (.aload_n 0, 1) := by decide +kernel
theorem dX1_setWord_39 : decode cX1_setWord 39 = .ok (.getfield 23, 3) := by decide +kernel
theorem dX1_setWord_42 : decode cX1_setWord 42 = .ok (.iload_n 1, 1) := by decide +kernel
theorem dX1_setWord_43 : decode cX1_setWord 43 = .ok (.iload_n 2, 1) := by decide +kernel
theorem dX1_setWord_44 : decode cX1_setWord 44 = .ok (.iastore, 1) := by decide +kernel
theorem dX1_setWord_45 : decode cX1_setWord 45 = .ok (.aload_n 0, 1) := by decide +kernel
theorem dX1_setWord_46 : decode cX1_setWord 46 = .ok (.iconst 0, 1) := by decide +kernel
theorem dX1_setWord_47 : decode cX1_setWord 47 = .ok (.putfield 85, 3) := by decide +kernel
theorem dX1_setWord_50 : decode cX1_setWord 50 = .ok (.iload_n 3, 1) := by decide +kernel
theorem dX1_setWord_51 : decode cX1_setWord 51 = .ok (.ireturn, 1) := by decide +kernel
theorem dX1_setStep_0 : decode cX1_setStep 0 = .ok (.aload_n 0, 1) := by decide +kernel
theorem dX1_setStep_1 : decode cX1_setStep 1 = .ok (.iconst 0, 1) := by decide +kernel
theorem dX1_setStep_2 : decode cX1_setStep 2 = .ok (.putfield 35, 3) := by decide +kernel
theorem dX1_setStep_5 : decode cX1_setStep 5 = .ok (.iload_n 1, 1) := by decide +kernel
theorem dX1_setStep_6 : decode cX1_setStep 6 = .ok (.iconst 1, 1) := by decide +kernel
theorem dX1_setStep_7 : decode cX1_setStep 7 = .ok (.iconst 4, 1) := by decide +kernel
theorem dX1_setStep_8 : decode cX1_setStep 8 = .ok (.invokestatic 41, 3) := by decide +kernel
theorem dX1_setStep_11 : decode cX1_setStep 11 = .ok (.ifCond .ne 9, 3) := by decide +kernel
theorem dX1_setStep_14 : decode cX1_setStep 14 = .ok (.aload_n 0, 1) := by decide +kernel
theorem dX1_setStep_15 : decode cX1_setStep 15 = .ok (.iconst 1, 1) := by decide +kernel
theorem dX1_setStep_16 : decode cX1_setStep 16 = .ok (.invokevirtual 112, 3) := by decide +kernel
theorem dX1_setStep_19 : decode cX1_setStep 19 = .ok (.ireturn, 1) := by decide +kernel
theorem dX1_setStep_20 : decode cX1_setStep 20 = .ok (.aload_n 0, 1) := by decide +kernel
theorem dX1_setStep_21 : decode cX1_setStep 21 = .ok (.getfield 7, 3) := by decide +kernel
theorem dX1_setStep_24 : decode cX1_setStep 24 = .ok (.istore_n 2, 1) := by decide +kernel
theorem dX1_setStep_25 : decode cX1_setStep 25 = .ok (.aload_n 0, 1) := by decide +kernel
theorem dX1_setStep_26 : decode cX1_setStep 26 = .ok (.iload_n 1, 1) := by decide +kernel
theorem dX1_setStep_27 : decode cX1_setStep 27 = .ok (.putfield 7, 3) := by decide +kernel
theorem dX1_setStep_30 : decode cX1_setStep 30 = .ok (.aload_n 0, 1) := by decide +kernel
theorem dX1_setStep_31 : decode cX1_setStep 31 = .ok (.iconst 0, 1) := by decide +kernel
theorem dX1_setStep_32 : decode cX1_setStep 32 = .ok (.putfield 85, 3) := by decide +kernel
theorem dX1_setStep_35 : decode cX1_setStep 35 = .ok (.iload_n 2, 1) := by decide +kernel
theorem dX1_setStep_36 : decode cX1_setStep 36 = .ok (.ireturn, 1) := by decide +kernel
theorem dX1_legs_0 : decode cX1_legs 0 = .ok (.aload_n 0, 1) := by decide +kernel
theorem dX1_legs_1 : decode cX1_legs 1 = .ok (.aload_n 0, 1) := by decide +kernel
theorem dX1_legs_2 : decode cX1_legs 2 = .ok (.getfield 38, 3) := by decide +kernel
theorem dX1_legs_5 : decode cX1_legs 5 = .ok (.invokevirtual 118, 3) := by decide +kernel
theorem dX1_legs_8 : decode cX1_legs 8 = .ok (.ireturn, 1) := by decide +kernel
theorem dX1_step_0 : decode cX1_step 0 = .ok (.aload_n 0, 1) := by decide +kernel
theorem dX1_step_1 : decode cX1_step 1 = .ok (.aload_n 0, 1) := by decide +kernel
theorem dX1_step_2 : decode cX1_step 2 = .ok (.getfield 7, 3) := by decide +kernel
theorem dX1_step_5 : decode cX1_step 5 = .ok (.invokevirtual 118, 3) := by decide +kernel
theorem dX1_step_8 : decode cX1_step 8 = .ok (.ireturn, 1) := by decide +kernel
theorem dX1_endX_0 : decode cX1_endX 0 = .ok (.aload_n 0, 1) := by decide +kernel
theorem dX1_endX_1 : decode cX1_endX 1 = .ok (.aload_n 0, 1) := by decide +kernel
theorem dX1_endX_2 : decode cX1_endX 2 = .ok (.aload_n 0, 1) := by decide +kernel
theorem dX1_endX_3 : decode cX1_endX 3 = .ok (.getfield 29, 3) := by decide +kernel
theorem dX1_endX_6 : decode cX1_endX 6 = .ok (.invokevirtual 121, 3) := by decide +kernel
theorem dX1_endX_9 : decode cX1_endX 9 = .ok (.invokevirtual 118, 3) := by decide +kernel
theorem dX1_endX_12 : decode cX1_endX 12 = .ok (.ireturn, 1) := by decide +kernel
theorem dX1_endY_0 : decode cX1_endY 0 = .ok (.aload_n 0, 1) := by decide +kernel
theorem dX1_endY_1 : decode cX1_endY 1 = .ok (.aload_n 0, 1) := by decide +kernel
theorem dX1_endY_2 : decode cX1_endY 2 = .ok (.aload_n 0, 1) := by decide +kernel
theorem dX1_endY_3 : decode cX1_endY 3 = .ok (.getfield 32, 3) := by decide +kernel
theorem dX1_endY_6 : decode cX1_endY 6 = .ok (.invokevirtual 121, 3) := by decide +kernel
theorem dX1_endY_9 : decode cX1_endY 9 = .ok (.invokevirtual 118, 3) := by decide +kernel
theorem dX1_endY_12 : decode cX1_endY 12 = .ok (.ireturn, 1) := by decide +kernel
theorem dX1_stepsHome_0 : decode cX1_stepsHome 0 = .ok (.aload_n 0, 1) := by decide +kernel
theorem dX1_stepsHome_1 : decode cX1_stepsHome 1 = .ok (.aload_n 0, 1) := by decide +kernel
theorem dX1_stepsHome_2 : decode cX1_stepsHome 2 = .ok (.invokevirtual 125, 3) := by decide +kernel
theorem dX1_stepsHome_5 : decode cX1_stepsHome 5 = .ok (.invokevirtual 118, 3) := by decide +kernel
theorem dX1_stepsHome_8 : decode cX1_stepsHome 8 = .ok (.ireturn, 1) := by decide +kernel
theorem dX1_returns_0 : decode cX1_returns 0 = .ok (.aload_n 0, 1) := by decide +kernel
theorem dX1_returns_1 : decode cX1_returns 1 = .ok (.aload_n 0, 1) := by decide +kernel
theorem dX1_returns_2 : decode cX1_returns 2 = .ok (.invokevirtual 129, 3) := by decide +kernel
theorem dX1_returns_5 : decode cX1_returns 5 = .ok (.invokevirtual 118, 3) := by decide +kernel
theorem dX1_returns_8 : decode cX1_returns 8 = .ok (.ireturn, 1) := by decide +kernel
theorem dX1_turnOf_0 : decode cX1_turnOf 0 = .ok (.aload_n 0, 1) := by decide +kernel
theorem dX1_turnOf_1 : decode cX1_turnOf 1 = .ok (.iconst 0, 1) := by decide +kernel
theorem dX1_turnOf_2 : decode cX1_turnOf 2 = .ok (.putfield 35, 3) := by decide +kernel
theorem dX1_turnOf_5 : decode cX1_turnOf 5 = .ok (.aload_n 0, 1) := by decide +kernel
theorem dX1_turnOf_6 : decode cX1_turnOf 6 = .ok (.iload_n 1, 1) := by decide +kernel
theorem dX1_turnOf_7 : decode cX1_turnOf 7 = .ok (.invokevirtual 115, 3) := by decide +kernel
theorem dX1_turnOf_10 : decode cX1_turnOf 10 = .ok (.ifCond .eq 12, 3) := by decide +kernel
theorem dX1_turnOf_13 : decode cX1_turnOf 13 = .ok (.aload_n 0, 1) := by decide +kernel
theorem dX1_turnOf_14 : decode cX1_turnOf 14 = .ok (.getfield 13, 3) := by decide +kernel
theorem dX1_turnOf_17 : decode cX1_turnOf 17 = .ok (.iload_n 1, 1) := by decide +kernel
theorem dX1_turnOf_18 : decode cX1_turnOf 18 = .ok (.iaload, 1) := by decide +kernel
theorem dX1_turnOf_19 : decode cX1_turnOf 19 = .ok (.goto 8, 3) := by decide +kernel
theorem dX1_turnOf_22 : decode cX1_turnOf 22 = .ok (.aload_n 0, 1) := by decide +kernel
theorem dX1_turnOf_23 : decode cX1_turnOf 23 = .ok (.iconst 1, 1) := by decide +kernel
theorem dX1_turnOf_24 : decode cX1_turnOf 24 = .ok (.invokevirtual 112, 3) := by decide +kernel
theorem dX1_turnOf_27 : decode cX1_turnOf 27 = .ok (.ireturn, 1) := by decide +kernel
theorem dX1_headingOf_0 : decode cX1_headingOf 0 = .ok (.aload_n 0, 1) := by decide +kernel
theorem dX1_headingOf_1 : decode cX1_headingOf 1 = .ok (.iconst 0, 1) := by decide +kernel
theorem dX1_headingOf_2 : decode cX1_headingOf 2 = .ok (.putfield 35, 3) := by decide +kernel
theorem dX1_headingOf_5 : decode cX1_headingOf 5 = .ok (.aload_n 0, 1) := by decide +kernel
theorem dX1_headingOf_6 : decode cX1_headingOf 6 = .ok (.iload_n 1, 1) := by decide +kernel
theorem dX1_headingOf_7 : decode cX1_headingOf 7 = .ok (.invokevirtual 115, 3) := by decide +kernel
theorem dX1_headingOf_10 : decode cX1_headingOf 10 = .ok (.ifCond .eq 11, 3) := by decide +kernel
theorem dX1_headingOf_13 : decode cX1_headingOf 13 = .ok (.aload_n 0, 1) := by decide +kernel
theorem dX1_headingOf_14 : decode cX1_headingOf 14 = .ok (.iload_n 1, 1) := by decide +kernel
theorem dX1_headingOf_15 : decode cX1_headingOf 15 = .ok (.invokevirtual 48, 3) := by decide +kernel
theorem dX1_headingOf_18 : decode cX1_headingOf 18 = .ok (.goto 8, 3) := by decide +kernel
theorem dX1_headingOf_21 : decode cX1_headingOf 21 = .ok (.aload_n 0, 1) := by decide +kernel
theorem dX1_headingOf_22 : decode cX1_headingOf 22 = .ok (.iconst 1, 1) := by decide +kernel
theorem dX1_headingOf_23 : decode cX1_headingOf 23 = .ok (.invokevirtual 112, 3) := by decide +kernel
theorem dX1_headingOf_26 : decode cX1_headingOf 26 = .ok (.ireturn, 1) := by decide +kernel
theorem dX1_landmarkOf_0 : decode cX1_landmarkOf 0 = .ok (.aload_n 0, 1) := by decide +kernel
theorem dX1_landmarkOf_1 : decode cX1_landmarkOf 1 = .ok (.iconst 0, 1) := by decide +kernel
theorem dX1_landmarkOf_2 : decode cX1_landmarkOf 2 = .ok (.putfield 35, 3) := by decide +kernel
theorem dX1_landmarkOf_5 : decode cX1_landmarkOf 5 = .ok (.aload_n 0, 1) := by decide +kernel
theorem dX1_landmarkOf_6 : decode cX1_landmarkOf 6 = .ok (.iload_n 1, 1) := by decide +kernel
theorem dX1_landmarkOf_7 : decode cX1_landmarkOf 7 = .ok (.invokevirtual 115, 3) := by decide +kernel
theorem dX1_landmarkOf_10 : decode cX1_landmarkOf 10 = .ok (.ifCond .eq 12, 3) := by decide +kernel
theorem dX1_landmarkOf_13 : decode cX1_landmarkOf 13 = .ok (.aload_n 0, 1) := by decide +kernel
theorem dX1_landmarkOf_14 : decode cX1_landmarkOf 14 = .ok (.getfield 20, 3) := by decide +kernel
theorem dX1_landmarkOf_17 : decode cX1_landmarkOf 17 = .ok (.iload_n 1, 1) := by decide +kernel
theorem dX1_landmarkOf_18 : decode cX1_landmarkOf 18 = .ok (.iaload, 1) := by decide +kernel
theorem dX1_landmarkOf_19 : decode cX1_landmarkOf 19 = .ok (.goto 8, 3) := by decide +kernel
theorem dX1_landmarkOf_22 : decode cX1_landmarkOf 22 = .ok (.aload_n 0, 1) := by decide +kernel
theorem dX1_landmarkOf_23 : decode cX1_landmarkOf 23 = .ok (.iconst 1, 1) := by decide +kernel
theorem dX1_landmarkOf_24 : decode cX1_landmarkOf 24 = .ok (.invokevirtual 112, 3) := by decide +kernel
theorem dX1_landmarkOf_27 : decode cX1_landmarkOf 27 = .ok (.ireturn, 1) := by decide +kernel
theorem dX1_noteNow_0 : decode cX1_noteNow 0 = .ok (.aload_n 0, 1) := by decide +kernel
theorem dX1_noteNow_1 : decode cX1_noteNow 1 = .ok (.aload_n 0, 1) := by decide +kernel
theorem dX1_noteNow_2 : decode cX1_noteNow 2 = .ok (.getfield 7, 3) := by decide +kernel
theorem dX1_noteNow_5 : decode cX1_noteNow 5 = .ok (.invokevirtual 68, 3) := by decide +kernel
theorem dX1_noteNow_8 : decode cX1_noteNow 8 = .ok (.aload_n 0, 1) := by decide +kernel
theorem dX1_noteNow_9 : decode cX1_noteNow 9 = .ok (.getfield 26, 3) := by decide +kernel
theorem dX1_noteNow_12 : decode cX1_noteNow 12 = .ok (.iload_n 1, 1) := by decide +kernel
theorem dX1_noteNow_13 : decode cX1_noteNow 13 = .ok (.iconst 1, 1) := by decide +kernel
theorem dX1_noteNow_14 : decode cX1_noteNow 14 = .ok (.iadd, 1) := by decide +kernel
theorem dX1_noteNow_15 : decode cX1_noteNow 15 = .ok (.iaload, 1) := by decide +kernel
theorem dX1_noteNow_16 : decode cX1_noteNow 16 = .ok (.ireturn, 1) := by decide +kernel
theorem dX1_noteOf_0 : decode cX1_noteOf 0 = .ok (.aload_n 0, 1) := by decide +kernel
theorem dX1_noteOf_1 : decode cX1_noteOf 1 = .ok (.iconst 0, 1) := by decide +kernel
theorem dX1_noteOf_2 : decode cX1_noteOf 2 = .ok (.putfield 35, 3) := by decide +kernel
theorem dX1_noteOf_5 : decode cX1_noteOf 5 = .ok (.aload_n 0, 1) := by decide +kernel
theorem dX1_noteOf_6 : decode cX1_noteOf 6 = .ok (.iload_n 1, 1) := by decide +kernel
theorem dX1_noteOf_7 : decode cX1_noteOf 7 = .ok (.invokevirtual 115, 3) := by decide +kernel
theorem dX1_noteOf_10 : decode cX1_noteOf 10 = .ok (.ifCond .eq 11, 3) := by decide +kernel
theorem dX1_noteOf_13 : decode cX1_noteOf 13 = .ok (.aload_n 0, 1) := by decide +kernel
theorem dX1_noteOf_14 : decode cX1_noteOf 14 = .ok (.iload_n 1, 1) := by decide +kernel
theorem dX1_noteOf_15 : decode cX1_noteOf 15 = .ok (.invokevirtual 132, 3) := by decide +kernel
theorem dX1_noteOf_18 : decode cX1_noteOf 18 = .ok (.goto 8, 3) := by decide +kernel
theorem dX1_noteOf_21 : decode cX1_noteOf 21 = .ok (.aload_n 0, 1) := by decide +kernel
theorem dX1_noteOf_22 : decode cX1_noteOf 22 = .ok (.iconst 1, 1) := by decide +kernel
theorem dX1_noteOf_23 : decode cX1_noteOf 23 = .ok (.invokevirtual 112, 3) := by decide +kernel
theorem dX1_noteOf_26 : decode cX1_noteOf 26 = .ok (.ireturn, 1) := by decide +kernel
theorem dX1_isFolded_0 : decode cX1_isFolded 0 = .ok (.aload_n 0, 1) := by decide +kernel
theorem dX1_isFolded_1 : decode cX1_isFolded 1 = .ok (.iconst 0, 1) := by decide +kernel
theorem dX1_isFolded_2 : decode cX1_isFolded 2 = .ok (.putfield 35, 3) := by decide +kernel
theorem dX1_isFolded_5 : decode cX1_isFolded 5 = .ok (.aload_n 0, 1) := by decide +kernel
theorem dX1_isFolded_6 : decode cX1_isFolded 6 = .ok (.iload_n 1, 1) := by decide +kernel
theorem dX1_isFolded_7 : decode cX1_isFolded 7 = .ok (.invokevirtual 115, 3) := by decide +kernel
theorem dX1_isFolded_10 : decode cX1_isFolded 10 = .ok (.ifCond .eq 11, 3) := by decide +kernel
theorem dX1_isFolded_13 : decode cX1_isFolded 13 = .ok (.aload_n 0, 1) := by decide +kernel
theorem dX1_isFolded_14 : decode cX1_isFolded 14 = .ok (.iload_n 1, 1) := by decide +kernel
theorem dX1_isFolded_15 : decode cX1_isFolded 15 = .ok (.invokevirtual 72, 3) := by decide +kernel
theorem dX1_isFolded_18 : decode cX1_isFolded 18 = .ok (.goto 8, 3) := by decide +kernel
theorem dX1_isFolded_21 : decode cX1_isFolded 21 = .ok (.aload_n 0, 1) := by decide +kernel
theorem dX1_isFolded_22 : decode cX1_isFolded 22 = .ok (.iconst 1, 1) := by decide +kernel
theorem dX1_isFolded_23 : decode cX1_isFolded 23 = .ok (.invokevirtual 135, 3) := by decide +kernel
theorem dX1_isFolded_26 : decode cX1_isFolded 26 = .ok (.ireturn, 1) := by decide +kernel
theorem dX1_wordIn_0 : decode cX1_wordIn 0 = .ok (.aload_n 0, 1) := by decide +kernel
theorem dX1_wordIn_1 : decode cX1_wordIn 1 = .ok (.iconst 0, 1) := by decide +kernel
theorem dX1_wordIn_2 : decode cX1_wordIn 2 = .ok (.putfield 35, 3) := by decide +kernel
theorem dX1_wordIn_5 : decode cX1_wordIn 5 = .ok (.aload_n 0, 1) := by decide +kernel
theorem dX1_wordIn_6 : decode cX1_wordIn 6 = .ok (.iload_n 1, 1) := by decide +kernel
theorem dX1_wordIn_7 : decode cX1_wordIn 7 = .ok (.invokevirtual 115, 3) := by decide +kernel
theorem dX1_wordIn_10 : decode cX1_wordIn 10 = .ok (.ifCond .eq 17, 3) := by decide +kernel
theorem dX1_wordIn_13 : decode cX1_wordIn 13 = .ok (.aload_n 0, 1) := by decide +kernel
theorem dX1_wordIn_14 : decode cX1_wordIn 14 = .ok (.getfield 23, 3) := by decide +kernel
theorem dX1_wordIn_17 : decode cX1_wordIn 17 = .ok (.aload_n 0, 1) := by decide +kernel
theorem dX1_wordIn_18 : decode cX1_wordIn 18 = .ok (.getfield 20, 3) := by decide +kernel
theorem dX1_wordIn_21 : decode cX1_wordIn 21 = .ok (.iload_n 1, 1) := by decide +kernel
theorem dX1_wordIn_22 : decode cX1_wordIn 22 = .ok (.iaload, 1) := by decide +kernel
theorem dX1_wordIn_23 : decode cX1_wordIn 23 = .ok (.iaload, 1) := by decide +kernel
theorem dX1_wordIn_24 : decode cX1_wordIn 24 = .ok (.goto 8, 3) := by decide +kernel
theorem dX1_wordIn_27 : decode cX1_wordIn 27 = .ok (.aload_n 0, 1) := by decide +kernel
theorem dX1_wordIn_28 : decode cX1_wordIn 28 = .ok (.iconst 1, 1) := by decide +kernel
theorem dX1_wordIn_29 : decode cX1_wordIn 29 = .ok (.invokevirtual 112, 3) := by decide +kernel
theorem dX1_wordIn_32 : decode cX1_wordIn 32 = .ok (.ireturn, 1) := by decide +kernel
theorem dX1_wordOf_0 : decode cX1_wordOf 0 = .ok (.aload_n 0, 1) := by decide +kernel
theorem dX1_wordOf_1 : decode cX1_wordOf 1 = .ok (.iconst 0, 1) := by decide +kernel
theorem dX1_wordOf_2 : decode cX1_wordOf 2 = .ok (.putfield 35, 3) := by decide +kernel
theorem dX1_wordOf_5 : decode cX1_wordOf 5 = .ok (.iload_n 1, 1) := by decide +kernel
theorem dX1_wordOf_6 : decode cX1_wordOf 6 = .ok (.invokestatic 109, 3) := by decide +kernel
theorem dX1_wordOf_9 : decode cX1_wordOf 9 = .ok (.ifCond .eq 12, 3) := by decide +kernel
theorem dX1_wordOf_12 : decode cX1_wordOf 12 = .ok (.aload_n 0, 1) := by decide +kernel
theorem dX1_wordOf_13 : decode cX1_wordOf 13 = .ok (.getfield 23, 3) := by decide +kernel
theorem dX1_wordOf_16 : decode cX1_wordOf 16 = .ok (.iload_n 1, 1) := by decide +kernel
theorem dX1_wordOf_17 : decode cX1_wordOf 17 = .ok (.iaload, 1) := by decide +kernel
theorem dX1_wordOf_18 : decode cX1_wordOf 18 = .ok (.goto 8, 3) := by decide +kernel
theorem dX1_wordOf_21 : decode cX1_wordOf 21 = .ok (.aload_n 0, 1) := by decide +kernel
theorem dX1_wordOf_22 : decode cX1_wordOf 22 = .ok (.iconst 1, 1) := by decide +kernel
theorem dX1_wordOf_23 : decode cX1_wordOf 23 = .ok (.invokevirtual 112, 3) := by decide +kernel
theorem dX1_wordOf_26 : decode cX1_wordOf 26 = .ok (.ireturn, 1) := by decide +kernel
theorem dX1_allBeats_0 : decode cX1_allBeats 0 = .ok (.iconst 0, 1) := by decide +kernel
theorem dX1_allBeats_1 : decode cX1_allBeats 1 = .ok (.istore_n 1, 1) := by decide +kernel
theorem dX1_allBeats_2 : decode cX1_allBeats 2 = .ok (.iconst 0, 1) := by decide +kernel
theorem dX1_allBeats_3 : decode cX1_allBeats 3 = .ok (.istore_n 2, 1) := by decide +kernel
theorem dX1_allBeats_4 : decode cX1_allBeats 4 = .ok (.iload_n 2, 1) := by decide +kernel
theorem dX1_allBeats_5 : decode cX1_allBeats 5 = .ok (.aload_n 0, 1) := by decide +kernel
theorem dX1_allBeats_6 : decode cX1_allBeats 6 = .ok (.getfield 38, 3) := by decide +kernel
theorem dX1_allBeats_9 : decode cX1_allBeats 9 = .ok (.if_icmp .ge 18, 3) := by decide +kernel
theorem dX1_allBeats_12 : decode cX1_allBeats 12 = .ok (.iload_n 1, 1) := by decide +kernel
theorem dX1_allBeats_13 : decode cX1_allBeats 13 = .ok (.aload_n 0, 1) := by decide +kernel
theorem dX1_allBeats_14 : decode cX1_allBeats 14 = .ok (.getfield 17, 3) := by decide +kernel
theorem dX1_allBeats_17 : decode cX1_allBeats 17 = .ok (.iload_n 2, 1) := by decide +kernel
theorem dX1_allBeats_18 : decode cX1_allBeats 18 = .ok (.iaload, 1) := by decide +kernel
theorem dX1_allBeats_19 : decode cX1_allBeats 19 = .ok (.iadd, 1) := by decide +kernel
theorem dX1_allBeats_20 : decode cX1_allBeats 20 = .ok (.istore_n 1, 1) := by decide +kernel
theorem dX1_allBeats_21 : decode cX1_allBeats 21 = .ok (.iinc 2 1, 3) := by decide +kernel
theorem dX1_allBeats_24 : decode cX1_allBeats 24 = .ok (.goto (-20), 3) := by decide +kernel
theorem dX1_allBeats_27 : decode cX1_allBeats 27 = .ok (.iload_n 1, 1) := by decide +kernel
theorem dX1_allBeats_28 : decode cX1_allBeats 28 = .ok (.ireturn, 1) := by decide +kernel
theorem dX1_beats_0 : decode cX1_beats 0 = .ok (.aload_n 0, 1) := by decide +kernel
theorem dX1_beats_1 : decode cX1_beats 1 = .ok (.aload_n 0, 1) := by decide +kernel
theorem dX1_beats_2 : decode cX1_beats 2 = .ok (.invokevirtual 138, 3) := by decide +kernel
theorem dX1_beats_5 : decode cX1_beats 5 = .ok (.invokevirtual 118, 3) := by decide +kernel
theorem dX1_beats_8 : decode cX1_beats 8 = .ok (.ireturn, 1) := by decide +kernel
theorem dX1_folded_0 : decode cX1_folded 0 = .ok (.aload_n 0, 1) := by decide +kernel
theorem dX1_folded_1 : decode cX1_folded 1 = .ok (.aload_n 0, 1) := by decide +kernel
theorem dX1_folded_2 : decode cX1_folded 2 = .ok (.invokevirtual 141, 3) := by decide +kernel
theorem dX1_folded_5 : decode cX1_folded 5 = .ok (.invokevirtual 118, 3) := by decide +kernel
theorem dX1_folded_8 : decode cX1_folded 8 = .ok (.ireturn, 1) := by decide +kernel
theorem dX1_wide_0 : decode cX1_wide 0 = .ok (.aload_n 0, 1) := by decide +kernel
theorem dX1_wide_1 : decode cX1_wide 1 = .ok (.aload_n 0, 1) := by decide +kernel
theorem dX1_wide_2 : decode cX1_wide 2 = .ok (.getfield 7, 3) := by decide +kernel
theorem dX1_wide_5 : decode cX1_wide 5 = .ok (.invokevirtual 68, 3) := by decide +kernel
theorem dX1_wide_8 : decode cX1_wide 8 = .ok (.iconst 0, 1) := by decide +kernel
theorem dX1_wide_9 : decode cX1_wide 9 = .ok (.istore_n 1, 1) := by decide +kernel
theorem dX1_wide_10 : decode cX1_wide 10 = .ok (.bipush 24, 2) := by decide +kernel
theorem dX1_wide_12 : decode cX1_wide 12 = .ok (.istore_n 2, 1) := by decide +kernel
theorem dX1_wide_13 : decode cX1_wide 13 = .ok (.iconst 1, 1) := by decide +kernel
theorem dX1_wide_14 : decode cX1_wide 14 = .ok (.istore_n 3, 1) := by decide +kernel
theorem dX1_wide_15 : decode cX1_wide 15 = .ok (.iload_n 3, 1) := by decide +kernel
theorem dX1_wide_16 : decode cX1_wide 16 = .ok (.aload_n 0, 1) := by decide +kernel
theorem dX1_wide_17 : decode cX1_wide 17 = .ok (.getfield 38, 3) := by decide +kernel
theorem dX1_wide_20 : decode cX1_wide 20 = .ok (.if_icmp .gt 31, 3) := by decide +kernel
theorem dX1_wide_23 : decode cX1_wide 23 = .ok (.iload_n 1, 1) := by decide +kernel
theorem dX1_wide_24 : decode cX1_wide 24 = .ok (.aload_n 0, 1) := by decide +kernel
theorem dX1_wide_25 : decode cX1_wide 25 = .ok (.getfield 26, 3) := by decide +kernel
theorem dX1_wide_28 : decode cX1_wide 28 = .ok (.iload_n 3, 1) := by decide +kernel
theorem dX1_wide_29 : decode cX1_wide 29 = .ok (.iaload, 1) := by decide +kernel
theorem dX1_wide_30 : decode cX1_wide 30 = .ok (.invokestatic 60, 3) := by decide +kernel
theorem dX1_wide_33 : decode cX1_wide 33 = .ok (.istore_n 1, 1) := by decide +kernel
theorem dX1_wide_34 : decode cX1_wide 34 = .ok (.iload_n 2, 1) := by decide +kernel
theorem dX1_wide_35 : decode cX1_wide 35 = .ok (.aload_n 0, 1) := by decide +kernel
theorem dX1_wide_36 : decode cX1_wide 36 = .ok (.getfield 26, 3) := by decide +kernel
theorem dX1_wide_39 : decode cX1_wide 39 = .ok (.iload_n 3, 1) := by decide +kernel
theorem dX1_wide_40 : decode cX1_wide 40 = .ok (.iaload, 1) := by decide +kernel
theorem dX1_wide_41 : decode cX1_wide 41 = .ok (.invokestatic 144, 3) := by decide +kernel
theorem dX1_wide_44 : decode cX1_wide 44 = .ok (.istore_n 2, 1) := by decide +kernel
theorem dX1_wide_45 : decode cX1_wide 45 = .ok (.iinc 3 1, 3) := by decide +kernel
theorem dX1_wide_48 : decode cX1_wide 48 = .ok (.goto (-33), 3) := by decide +kernel
theorem dX1_wide_51 : decode cX1_wide 51 = .ok (.aload_n 0, 1) := by decide +kernel
theorem dX1_wide_52 : decode cX1_wide 52 = .ok (.getfield 38, 3) := by decide +kernel
theorem dX1_wide_55 : decode cX1_wide 55 = .ok (.ifCond .ne 7, 3) := by decide +kernel
theorem dX1_wide_58 : decode cX1_wide 58 = .ok (.iconst 0, 1) := by decide +kernel
theorem dX1_wide_59 : decode cX1_wide 59 = .ok (.goto 6, 3) := by decide +kernel
theorem dX1_wide_62 : decode cX1_wide 62 = .ok (.iload_n 1, 1) := by decide +kernel
theorem dX1_wide_63 : decode cX1_wide 63 = .ok (.iload_n 2, 1) := by decide +kernel
theorem dX1_wide_64 : decode cX1_wide 64 = .ok (.isub, 1) := by decide +kernel
theorem dX1_wide_65 : decode cX1_wide 65 = .ok (.ireturn, 1) := by decide +kernel
theorem dX1_range_0 : decode cX1_range 0 = .ok (.aload_n 0, 1) := by decide +kernel
theorem dX1_range_1 : decode cX1_range 1 = .ok (.aload_n 0, 1) := by decide +kernel
theorem dX1_range_2 : decode cX1_range 2 = .ok (.invokevirtual 146, 3) := by decide +kernel
theorem dX1_range_5 : decode cX1_range 5 = .ok (.invokevirtual 118, 3) := by decide +kernel
theorem dX1_range_8 : decode cX1_range 8 = .ok (.ireturn, 1) := by decide +kernel
theorem dX1_sungWith_0 : decode cX1_sungWith 0 = .ok (.aload_n 0, 1) := by decide +kernel
theorem dX1_sungWith_1 : decode cX1_sungWith 1 = .ok (.iconst 0, 1) := by decide +kernel
theorem dX1_sungWith_2 : decode cX1_sungWith 2 = .ok (.putfield 35, 3) := by decide +kernel
theorem dX1_sungWith_5 : decode cX1_sungWith 5 = .ok (.iload_n 1, 1) := by decide +kernel
theorem dX1_sungWith_6 : decode cX1_sungWith 6 = .ok (.invokestatic 109, 3) := by decide +kernel
theorem dX1_sungWith_9 : decode cX1_sungWith 9 = .ok (.ifCond .ne 9, 3) := by decide +kernel
theorem dX1_sungWith_12 : decode cX1_sungWith 12 = .ok (.aload_n 0, 1) := by decide +kernel
theorem dX1_sungWith_13 : decode cX1_sungWith 13 = .ok (.iconst 1, 1) := by decide +kernel
theorem dX1_sungWith_14 : decode cX1_sungWith 14 = .ok (.invokevirtual 112, 3) := by decide +kernel
theorem dX1_sungWith_17 : decode cX1_sungWith 17 = .ok (.ireturn, 1) := by decide +kernel
theorem dX1_sungWith_18 : decode cX1_sungWith 18 = .ok (.iconst 0, 1) := by decide +kernel
theorem dX1_sungWith_19 : decode cX1_sungWith 19 = .ok (.istore_n 2, 1) := by decide +kernel
theorem dX1_sungWith_20 : decode cX1_sungWith 20 = .ok (.iconst 0, 1) := by decide +kernel
theorem dX1_sungWith_21 : decode cX1_sungWith 21 = .ok (.istore_n 3, 1) := by decide +kernel
theorem dX1_sungWith_22 : decode cX1_sungWith 22 = .ok (.iload_n 3, 1) := by decide +kernel
theorem dX1_sungWith_23 : decode cX1_sungWith 23 = .ok (.aload_n 0, 1) := by decide +kernel
theorem dX1_sungWith_24 : decode cX1_sungWith 24 = .ok (.getfield 38, 3) := by decide +kernel
theorem dX1_sungWith_27 : decode cX1_sungWith 27 = .ok (.if_icmp .ge 32, 3) := by decide +kernel
theorem dX1_sungWith_30 : decode cX1_sungWith 30 = .ok (.iload_n 2, 1) := by decide +kernel
theorem dX1_sungWith_31 : decode cX1_sungWith 31 = .ok (.aload_n 0, 1) := by decide +kernel
theorem dX1_sungWith_32 : decode cX1_sungWith 32 = .ok (.getfield 23, 3) := by decide +kernel
theorem dX1_sungWith_35 : decode cX1_sungWith 35 = .ok (.aload_n 0, 1) := by decide +kernel
theorem dX1_sungWith_36 : decode cX1_sungWith 36 = .ok (.getfield 20, 3) := by decide +kernel
theorem dX1_sungWith_39 : decode cX1_sungWith 39 = .ok (.iload_n 3, 1) := by decide +kernel
theorem dX1_sungWith_40 : decode cX1_sungWith 40 = .ok (.iaload, 1) := by decide +kernel
theorem dX1_sungWith_41 : decode cX1_sungWith 41 = .ok (.iaload, 1) := by decide +kernel
theorem dX1_sungWith_42 : decode cX1_sungWith 42 = .ok (.iload_n 1, 1) := by decide +kernel
theorem dX1_sungWith_43 : decode cX1_sungWith 43 = .ok (.if_icmp .ne 7, 3) := by decide +kernel
theorem dX1_sungWith_46 : decode cX1_sungWith 46 = .ok (.iconst 1, 1) := by decide +kernel
theorem dX1_sungWith_47 : decode cX1_sungWith 47 = .ok (.goto 4, 3) := by decide +kernel
theorem dX1_sungWith_50 : decode cX1_sungWith 50 = .ok (.iconst 0, 1) := by decide +kernel
theorem dX1_sungWith_51 : decode cX1_sungWith 51 = .ok (.iadd, 1) := by decide +kernel
theorem dX1_sungWith_52 : decode cX1_sungWith 52 = .ok (.istore_n 2, 1) := by decide +kernel
theorem dX1_sungWith_53 : decode cX1_sungWith 53 = .ok (.iinc 3 1, 3) := by decide +kernel
theorem dX1_sungWith_56 : decode cX1_sungWith 56 = .ok (.goto (-34), 3) := by decide +kernel
theorem dX1_sungWith_59 : decode cX1_sungWith 59 = .ok (.iload_n 2, 1) := by decide +kernel
theorem dX1_sungWith_60 : decode cX1_sungWith 60 = .ok (.ireturn, 1) := by decide +kernel
theorem dX1_readings_0 : decode cX1_readings 0 = .ok (.aload_n 0, 1) := by decide +kernel
theorem dX1_readings_1 : decode cX1_readings 1 = .ok (.iconst 0, 1) := by decide +kernel
theorem dX1_readings_2 : decode cX1_readings 2 = .ok (.putfield 35, 3) := by decide +kernel
theorem dX1_readings_5 : decode cX1_readings 5 = .ok (.aload_n 0, 1) := by decide +kernel
theorem dX1_readings_6 : decode cX1_readings 6 = .ok (.iload_n 1, 1) := by decide +kernel
theorem dX1_readings_7 : decode cX1_readings 7 = .ok (.invokevirtual 115, 3) := by decide +kernel
theorem dX1_readings_10 : decode cX1_readings 10 = .ok (.ifCond .eq 11, 3) := by decide +kernel
theorem dX1_readings_13 : decode cX1_readings 13 = .ok (.aload_n 0, 1) := by decide +kernel
theorem dX1_readings_14 : decode cX1_readings 14 = .ok (.iload_n 1, 1) := by decide +kernel
theorem dX1_readings_15 : decode cX1_readings 15 = .ok (.invokevirtual 91, 3) := by decide +kernel
theorem dX1_readings_18 : decode cX1_readings 18 = .ok (.goto 8, 3) := by decide +kernel
theorem dX1_readings_21 : decode cX1_readings 21 = .ok (.aload_n 0, 1) := by decide +kernel
theorem dX1_readings_22 : decode cX1_readings 22 = .ok (.iconst 1, 1) := by decide +kernel
theorem dX1_readings_23 : decode cX1_readings 23 = .ok (.invokevirtual 112, 3) := by decide +kernel
theorem dX1_readings_26 : decode cX1_readings 26 = .ok (.ireturn, 1) := by decide +kernel
theorem dX1_rightReading_0 : decode cX1_rightReading 0 = .ok (.aload_n 0, 1) := by decide +kernel
theorem dX1_rightReading_1 : decode cX1_rightReading 1 = .ok (.iconst 0, 1) := by decide +kernel
theorem dX1_rightReading_2 : decode cX1_rightReading 2 = .ok (.putfield 35, 3) := by decide +kernel
theorem dX1_rightReading_5 : decode cX1_rightReading 5 = .ok (.aload_n 0, 1) := by decide +kernel
theorem dX1_rightReading_6 : decode cX1_rightReading 6 = .ok (.iload_n 1, 1) := by decide +kernel
theorem dX1_rightReading_7 : decode cX1_rightReading 7 = .ok (.invokevirtual 115, 3) := by decide +kernel
theorem dX1_rightReading_10 : decode cX1_rightReading 10 = .ok (.ifCond .eq 11, 3) := by decide +kernel
theorem dX1_rightReading_13 : decode cX1_rightReading 13 = .ok (.aload_n 0, 1) := by decide +kernel
theorem dX1_rightReading_14 : decode cX1_rightReading 14 = .ok (.iload_n 1, 1) := by decide +kernel
theorem dX1_rightReading_15 : decode cX1_rightReading 15 = .ok (.invokevirtual 149, 3) := by decide +kernel
theorem dX1_rightReading_18 : decode cX1_rightReading 18 = .ok (.goto 8, 3) := by decide +kernel
theorem dX1_rightReading_21 : decode cX1_rightReading 21 = .ok (.aload_n 0, 1) := by decide +kernel
theorem dX1_rightReading_22 : decode cX1_rightReading 22 = .ok (.iconst 1, 1) := by decide +kernel
theorem dX1_rightReading_23 : decode cX1_rightReading 23 = .ok (.invokevirtual 112, 3) := by decide +kernel
theorem dX1_rightReading_26 : decode cX1_rightReading 26 = .ok (.ireturn, 1) := by decide +kernel
theorem dX1_isAmbiguous_0 : decode cX1_isAmbiguous 0 = .ok (.aload_n 0, 1) := by decide +kernel
theorem dX1_isAmbiguous_1 : decode cX1_isAmbiguous 1 = .ok (.iconst 0, 1) := by decide +kernel
theorem dX1_isAmbiguous_2 : decode cX1_isAmbiguous 2 = .ok (.putfield 35, 3) := by decide +kernel
theorem dX1_isAmbiguous_5 : decode cX1_isAmbiguous 5 = .ok (.aload_n 0, 1) := by decide +kernel
theorem dX1_isAmbiguous_6 : decode cX1_isAmbiguous 6 = .ok (.iload_n 1, 1) := by decide +kernel
theorem dX1_isAmbiguous_7 : decode cX1_isAmbiguous 7 = .ok (.invokevirtual 115, 3) := by decide +kernel
theorem dX1_isAmbiguous_10 : decode cX1_isAmbiguous 10 = .ok (.ifCond .eq 11, 3) := by decide +kernel
theorem dX1_isAmbiguous_13 : decode cX1_isAmbiguous 13 = .ok (.aload_n 0, 1) := by decide +kernel
theorem dX1_isAmbiguous_14 : decode cX1_isAmbiguous 14 = .ok (.iload_n 1, 1) := by decide +kernel
theorem dX1_isAmbiguous_15 : decode cX1_isAmbiguous 15 = .ok (.invokevirtual 94, 3) := by decide +kernel
theorem dX1_isAmbiguous_18 : decode cX1_isAmbiguous 18 = .ok (.goto 8, 3) := by decide +kernel
theorem dX1_isAmbiguous_21 : decode cX1_isAmbiguous 21 = .ok (.aload_n 0, 1) := by decide +kernel
theorem dX1_isAmbiguous_22 : decode cX1_isAmbiguous 22 = .ok (.iconst 1, 1) := by decide +kernel
theorem dX1_isAmbiguous_23 : decode cX1_isAmbiguous 23 = .ok (.invokevirtual 135, 3) := by decide +kernel
theorem dX1_isAmbiguous_26 : decode cX1_isAmbiguous 26 = .ok (.ireturn, 1) := by decide +kernel
theorem dX1_isMended_0 : decode cX1_isMended 0 = .ok (.aload_n 0, 1) := by decide +kernel
theorem dX1_isMended_1 : decode cX1_isMended 1 = .ok (.iconst 0, 1) := by decide +kernel
theorem dX1_isMended_2 : decode cX1_isMended 2 = .ok (.putfield 35, 3) := by decide +kernel
theorem dX1_isMended_5 : decode cX1_isMended 5 = .ok (.aload_n 0, 1) := by decide +kernel
theorem dX1_isMended_6 : decode cX1_isMended 6 = .ok (.iload_n 1, 1) := by decide +kernel
theorem dX1_isMended_7 : decode cX1_isMended 7 = .ok (.invokevirtual 115, 3) := by decide +kernel
theorem dX1_isMended_10 : decode cX1_isMended 10 = .ok (.ifCond .eq 11, 3) := by decide +kernel
theorem dX1_isMended_13 : decode cX1_isMended 13 = .ok (.aload_n 0, 1) := by decide +kernel
theorem dX1_isMended_14 : decode cX1_isMended 14 = .ok (.iload_n 1, 1) := by decide +kernel
theorem dX1_isMended_15 : decode cX1_isMended 15 = .ok (.invokevirtual 88, 3) := by decide +kernel
theorem dX1_isMended_18 : decode cX1_isMended 18 = .ok (.goto 8, 3) := by decide +kernel
theorem dX1_isMended_21 : decode cX1_isMended 21 = .ok (.aload_n 0, 1) := by decide +kernel
theorem dX1_isMended_22 : decode cX1_isMended 22 = .ok (.iconst 1, 1) := by decide +kernel
theorem dX1_isMended_23 : decode cX1_isMended 23 = .ok (.invokevirtual 135, 3) := by decide +kernel
theorem dX1_isMended_26 : decode cX1_isMended 26 = .ok (.ireturn, 1) := by decide +kernel
theorem dX1_mend_0 : decode cX1_mend 0 = .ok (.aload_n 0, 1) := by decide +kernel
theorem dX1_mend_1 : decode cX1_mend 1 = .ok (.iconst 0, 1) := by decide +kernel
theorem dX1_mend_2 : decode cX1_mend 2 = .ok (.putfield 35, 3) := by decide +kernel
theorem dX1_mend_5 : decode cX1_mend 5 = .ok (.aload_n 0, 1) := by decide +kernel
theorem dX1_mend_6 : decode cX1_mend 6 = .ok (.iload_n 1, 1) := by decide +kernel
theorem dX1_mend_7 : decode cX1_mend 7 = .ok (.invokevirtual 115, 3) := by decide +kernel
theorem dX1_mend_10 : decode cX1_mend 10 = .ok (.ifCond .ne 9, 3) := by decide +kernel
theorem dX1_mend_13 : decode cX1_mend 13 = .ok (.aload_n 0, 1) := by decide +kernel
theorem dX1_mend_14 : decode cX1_mend 14 = .ok (.iconst 1, 1) := by decide +kernel
theorem dX1_mend_15 : decode cX1_mend 15 = .ok (.invokevirtual 112, 3) := by decide +kernel
theorem dX1_mend_18 : decode cX1_mend 18 = .ok (.ireturn, 1) := by decide +kernel
theorem dX1_mend_19 : decode cX1_mend 19 = .ok (.aload_n 0, 1) := by decide +kernel
theorem dX1_mend_20 : decode cX1_mend 20 = .ok (.iload_n 1, 1) := by decide +kernel
theorem dX1_mend_21 : decode cX1_mend 21 = .ok (.invokevirtual 94, 3) := by decide +kernel
theorem dX1_mend_24 : decode cX1_mend 24 = .ok (.ifCond .ne 9, 3) := by decide +kernel
theorem dX1_mend_27 : decode cX1_mend 27 = .ok (.aload_n 0, 1) := by decide +kernel
theorem dX1_mend_28 : decode cX1_mend 28 = .ok (.iconst 2, 1) := by decide +kernel
theorem dX1_mend_29 : decode cX1_mend 29 = .ok (.invokevirtual 112, 3) := by decide +kernel
theorem dX1_mend_32 : decode cX1_mend 32 = .ok (.ireturn, 1) := by decide +kernel
theorem dX1_mend_33 : decode cX1_mend 33 = .ok (.aload_n 0, 1) := by decide +kernel
theorem dX1_mend_34 : decode cX1_mend 34 = .ok (.dup, 1) := by decide +kernel
theorem dX1_mend_35 : decode cX1_mend 35 = .ok (.getfield 85, 3) := by decide +kernel
theorem dX1_mend_38 : decode cX1_mend 38 = .ok (.iconst 1, 1) := by decide +kernel
theorem dX1_mend_39 : decode cX1_mend 39 = .ok (.iload_n 1, 1) := by decide +kernel
theorem dX1_mend_40 : decode cX1_mend 40 = .ok (.ishl, 1) := by decide +kernel
theorem dX1_mend_41 : decode cX1_mend 41 = .ok (.ior, 1) := by decide +kernel
theorem dX1_mend_42 : decode cX1_mend 42 = .ok (.putfield 85, 3) := by decide +kernel
theorem dX1_mend_45 : decode cX1_mend 45 = .ok (.aload_n 0, 1) := by decide +kernel
theorem dX1_mend_46 : decode cX1_mend 46 = .ok (.iload_n 1, 1) := by decide +kernel
theorem dX1_mend_47 : decode cX1_mend 47 = .ok (.invokevirtual 149, 3) := by decide +kernel
theorem dX1_mend_50 : decode cX1_mend 50 = .ok (.ireturn, 1) := by decide +kernel
theorem dX1_mendTo_0 : decode cX1_mendTo 0 = .ok (.aload_n 0, 1) := by decide +kernel
theorem dX1_mendTo_1 : decode cX1_mendTo 1 = .ok (.iconst 0, 1) := by decide +kernel
theorem dX1_mendTo_2 : decode cX1_mendTo 2 = .ok (.putfield 35, 3) := by decide +kernel
theorem dX1_mendTo_5 : decode cX1_mendTo 5 = .ok (.iload_n 1, 1) := by decide +kernel
theorem dX1_mendTo_6 : decode cX1_mendTo 6 = .ok (.iconst 1, 1) := by decide +kernel
theorem dX1_mendTo_7 : decode cX1_mendTo 7 = .ok (.ldc 152, 2) := by decide +kernel
theorem dX1_mendTo_9 : decode cX1_mendTo 9 = .ok (.invokestatic 41, 3) := by decide +kernel
theorem dX1_mendTo_12 : decode cX1_mendTo 12 = .ok (.ifCond .ne 9, 3) := by decide +kernel
theorem dX1_mendTo_15 : decode cX1_mendTo 15 = .ok (.aload_n 0, 1) := by decide +kernel
theorem dX1_mendTo_16 : decode cX1_mendTo 16 = .ok (.iconst 1, 1) := by decide +kernel
theorem dX1_mendTo_17 : decode cX1_mendTo 17 = .ok (.invokevirtual 112, 3) := by decide +kernel
theorem dX1_mendTo_20 : decode cX1_mendTo 20 = .ok (.ireturn, 1) := by decide +kernel
theorem dX1_mendTo_21 : decode cX1_mendTo 21 = .ok (.iconst 0, 1) := by decide +kernel
theorem dX1_mendTo_22 : decode cX1_mendTo 22 = .ok (.istore_n 2, 1) := by decide +kernel
theorem dX1_mendTo_23 : decode cX1_mendTo 23 = .ok (.aload_n 0, 1) := by decide +kernel
theorem dX1_mendTo_24 : decode cX1_mendTo 24 = .ok (.invokevirtual 153, 3) := by decide +kernel
theorem dX1_mendTo_27 : decode cX1_mendTo 27 = .ok (.iload_n 1, 1) := by decide +kernel
theorem dX1_mendTo_28 : decode cX1_mendTo 28 = .ok (.i2l, 1) := by decide +kernel
theorem dX1_mendTo_29 : decode cX1_mendTo 29 = .ok (.lcmp, 1) := by decide +kernel
theorem dX1_mendTo_30 : decode cX1_mendTo 30 = .ok (.ifCond .le 72, 3) := by decide +kernel
theorem dX1_mendTo_33 : decode cX1_mendTo 33 = .ok (.iconst (-1), 1) := by decide +kernel
theorem dX1_mendTo_34 : decode cX1_mendTo 34 = .ok (.istore_n 3, 1) := by decide +kernel
theorem dX1_mendTo_35 : decode cX1_mendTo 35 = .ok (.iconst 0, 1) := by decide +kernel
theorem dX1_mendTo_36 : decode cX1_mendTo 36 = .ok (.istore 4, 2) := by decide +kernel
theorem dX1_mendTo_38 : decode cX1_mendTo 38 = .ok (.iload 4, 2) := by decide +kernel
theorem dX1_mendTo_40 : decode cX1_mendTo 40 = .ok (.aload_n 0, 1) := by decide +kernel
theorem dX1_mendTo_41 : decode cX1_mendTo 41 = .ok (.getfield 38, 3) := by decide +kernel
theorem dX1_mendTo_44 : decode cX1_mendTo 44 = .ok (.if_icmp .ge 40, 3) := by decide +kernel
theorem dX1_mendTo_47 : decode cX1_mendTo 47 = .ok (.aload_n 0, 1) := by decide +kernel
theorem dX1_mendTo_48 : decode cX1_mendTo 48 = .ok (.iload 4, 2) := by decide +kernel
theorem dX1_mendTo_50 : decode cX1_mendTo 50 = .ok (.invokevirtual 94, 3) := by decide +kernel
theorem dX1_mendTo_53 : decode cX1_mendTo 53 = .ok (.ifCond .eq 25, 3) := by decide +kernel
theorem dX1_mendTo_56 : decode cX1_mendTo 56 = .ok (.iload_n 3, 1) := by decide +kernel
theorem dX1_mendTo_57 : decode cX1_mendTo 57 = .ok (.iconst (-1), 1) := by decide +kernel
theorem dX1_mendTo_58 : decode cX1_mendTo 58 = .ok (.if_icmp .eq 17, 3) := by decide +kernel
theorem dX1_mendTo_61 : decode cX1_mendTo 61 = .ok (.aload_n 0, 1) := by decide +kernel
theorem dX1_mendTo_62 : decode cX1_mendTo 62 = .ok (.iload 4, 2) := by decide +kernel
theorem dX1_mendTo_64 : decode cX1_mendTo 64 = .ok (.invokevirtual 91, 3) := by decide +kernel
theorem dX1_mendTo_67 : decode cX1_mendTo 67 = .ok (.aload_n 0, 1) := by decide +kernel
theorem dX1_mendTo_68 : decode cX1_mendTo 68 = .ok (.iload_n 3, 1) := by decide +kernel
theorem dX1_mendTo_69 : decode cX1_mendTo 69 = .ok (.invokevirtual 91, 3) := by decide +kernel
theorem dX1_mendTo_72 : decode cX1_mendTo 72 = .ok (.if_icmp .le 6, 3) := by decide +kernel
theorem dX1_mendTo_75 : decode cX1_mendTo 75 = .ok (.iload 4, 2) := by decide +kernel
theorem dX1_mendTo_77 : decode cX1_mendTo 77 = .ok (.istore_n 3, 1) := by decide +kernel
theorem dX1_mendTo_78 : decode cX1_mendTo 78 = .ok (.iinc 4 1, 3) := by decide +kernel
theorem dX1_mendTo_81 : decode cX1_mendTo 81 = .ok (.goto (-43), 3) := by decide +kernel
theorem dX1_mendTo_84 : decode cX1_mendTo 84 = .ok (.aload_n 0, 1) := by decide +kernel
theorem dX1_mendTo_85 : decode cX1_mendTo 85 = .ok (.dup, 1) := by decide +kernel
theorem dX1_mendTo_86 : decode cX1_mendTo 86 = .ok (.getfield 85, 3) := by decide +kernel
theorem dX1_mendTo_89 : decode cX1_mendTo 89 = .ok (.iconst 1, 1) := by decide +kernel
theorem dX1_mendTo_90 : decode cX1_mendTo 90 = .ok (.iload_n 3, 1) := by decide +kernel
theorem dX1_mendTo_91 : decode cX1_mendTo 91 = .ok (.ishl, 1) := by decide +kernel
theorem dX1_mendTo_92 : decode cX1_mendTo 92 = .ok (.ior, 1) := by decide +kernel
theorem dX1_mendTo_93 : decode cX1_mendTo 93 = .ok (.putfield 85, 3) := by decide +kernel
theorem dX1_mendTo_96 : decode cX1_mendTo 96 = .ok (.iinc 2 1, 3) := by decide +kernel
theorem dX1_mendTo_99 : decode cX1_mendTo 99 = .ok (.goto (-76), 3) := by decide +kernel
theorem dX1_mendTo_102 : decode cX1_mendTo 102 = .ok (.iload_n 2, 1) := by decide +kernel
theorem dX1_mendTo_103 : decode cX1_mendTo 103 = .ok (.ireturn, 1) := by decide +kernel
theorem dX1_ambiguous_0 : decode cX1_ambiguous 0 = .ok (.aload_n 0, 1) := by decide +kernel
theorem dX1_ambiguous_1 : decode cX1_ambiguous 1 = .ok (.aload_n 0, 1) := by decide +kernel
theorem dX1_ambiguous_2 : decode cX1_ambiguous 2 = .ok (.invokevirtual 157, 3) := by decide +kernel
theorem dX1_ambiguous_5 : decode cX1_ambiguous 5 = .ok (.invokevirtual 118, 3) := by decide +kernel
theorem dX1_ambiguous_8 : decode cX1_ambiguous 8 = .ok (.ireturn, 1) := by decide +kernel
theorem dX1_ways_0 : decode cX1_ways 0 = .ok (.aload_n 0, 1) := by decide +kernel
theorem dX1_ways_1 : decode cX1_ways 1 = .ok (.iconst 0, 1) := by decide +kernel
theorem dX1_ways_2 : decode cX1_ways 2 = .ok (.putfield 35, 3) := by decide +kernel
theorem dX1_ways_5 : decode cX1_ways 5 = .ok (.aload_n 0, 1) := by decide +kernel
theorem dX1_ways_6 : decode cX1_ways 6 = .ok (.invokevirtual 153, 3) := by decide +kernel
theorem dX1_ways_9 : decode cX1_ways 9 = .ok (.lreturn, 1) := by decide +kernel
theorem dX1_firstOpen_0 : decode cX1_firstOpen 0 = .ok (.iconst 0, 1) := by decide +kernel
theorem dX1_firstOpen_1 : decode cX1_firstOpen 1 = .ok (.istore_n 1, 1) := by decide +kernel
theorem dX1_firstOpen_2 : decode cX1_firstOpen 2 = .ok (.iload_n 1, 1) := by decide +kernel
theorem dX1_firstOpen_3 : decode cX1_firstOpen 3 = .ok (.aload_n 0, 1) := by decide +kernel
theorem dX1_firstOpen_4 : decode cX1_firstOpen 4 = .ok (.getfield 38, 3) := by decide +kernel
theorem dX1_firstOpen_7 : decode cX1_firstOpen 7 = .ok (.if_icmp .ge 19, 3) := by decide +kernel
theorem dX1_firstOpen_10 : decode cX1_firstOpen 10 = .ok (.aload_n 0, 1) := by decide +kernel
theorem dX1_firstOpen_11 : decode cX1_firstOpen 11 = .ok (.iload_n 1, 1) := by decide +kernel
theorem dX1_firstOpen_12 : decode cX1_firstOpen 12 = .ok (.invokevirtual 94, 3) := by decide +kernel
theorem dX1_firstOpen_15 : decode cX1_firstOpen 15 = .ok (.ifCond .eq 5, 3) := by decide +kernel
theorem dX1_firstOpen_18 : decode cX1_firstOpen 18 = .ok (.iload_n 1, 1) := by decide +kernel
theorem dX1_firstOpen_19 : decode cX1_firstOpen 19 = .ok (.ireturn, 1) := by decide +kernel
theorem dX1_firstOpen_20 : decode cX1_firstOpen 20 = .ok (.iinc 1 1, 3) := by decide +kernel
theorem dX1_firstOpen_23 : decode cX1_firstOpen 23 = .ok (.goto (-21), 3) := by decide +kernel
theorem dX1_firstOpen_26 : decode cX1_firstOpen 26 = .ok (.iconst (-1), 1) := by decide +kernel
theorem dX1_firstOpen_27 : decode cX1_firstOpen 27 = .ok (.ireturn, 1) := by decide +kernel
theorem dX1_firstAmbiguous_0 : decode cX1_firstAmbiguous 0 = .ok (.aload_n 0, 1) := by decide +kernel
theorem dX1_firstAmbiguous_1 : decode cX1_firstAmbiguous 1 = .ok (.aload_n 0, 1) := by decide +kernel
theorem dX1_firstAmbiguous_2 : decode cX1_firstAmbiguous 2 = .ok (.invokevirtual 160, 3) := by decide +kernel
theorem dX1_firstAmbiguous_5 : decode cX1_firstAmbiguous 5 = .ok (.invokevirtual 118, 3) := by decide +kernel
theorem dX1_firstAmbiguous_8 : decode cX1_firstAmbiguous 8 = .ok (.ireturn, 1) := by decide +kernel
theorem dX1_ambiguousWith_0 : decode cX1_ambiguousWith 0 = .ok (.aload_n 0, 1) := by decide +kernel
theorem dX1_ambiguousWith_1 : decode cX1_ambiguousWith 1 = .ok (.iconst 0, 1) := by decide +kernel
theorem dX1_ambiguousWith_2 : decode cX1_ambiguousWith 2 = .ok (.putfield 35, 3) := by decide +kernel
theorem dX1_ambiguousWith_5 : decode cX1_ambiguousWith 5 = .ok (.iload_n 1, 1) := by decide +kernel
theorem dX1_ambiguousWith_6 : decode cX1_ambiguousWith 6 = .ok (.invokestatic 109, 3) := by decide +kernel
theorem dX1_ambiguousWith_9 : decode cX1_ambiguousWith 9 = .ok (.ifCond .eq 19, 3) := by decide +kernel
theorem dX1_ambiguousWith_12 : decode cX1_ambiguousWith 12 = .ok (.iload_n 2, 1) := by decide +kernel
theorem dX1_ambiguousWith_13 : decode cX1_ambiguousWith 13 = .ok (.invokestatic 109, 3) := by decide +kernel
theorem dX1_ambiguousWith_16 : decode cX1_ambiguousWith 16 = .ok (.ifCond .eq 12, 3) := by decide +kernel
theorem dX1_ambiguousWith_19 : decode cX1_ambiguousWith 19 = .ok (.aload_n 0, 1) := by decide +kernel
theorem dX1_ambiguousWith_20 : decode cX1_ambiguousWith 20 = .ok (.iload_n 1, 1) := by decide +kernel
theorem dX1_ambiguousWith_21 : decode cX1_ambiguousWith 21 = .ok (.iload_n 2, 1) := by decide +kernel
theorem dX1_ambiguousWith_22 : decode cX1_ambiguousWith 22 = .ok (.invokevirtual 106, 3) := by decide +kernel
theorem dX1_ambiguousWith_25 : decode cX1_ambiguousWith 25 = .ok (.goto 8, 3) := by decide +kernel
theorem dX1_ambiguousWith_28 : decode cX1_ambiguousWith 28 = .ok (.aload_n 0, 1) := by decide +kernel
theorem dX1_ambiguousWith_29 : decode cX1_ambiguousWith 29 = .ok (.iconst 1, 1) := by decide +kernel
theorem dX1_ambiguousWith_30 : decode cX1_ambiguousWith 30 = .ok (.invokevirtual 112, 3) := by decide +kernel
theorem dX1_ambiguousWith_33 : decode cX1_ambiguousWith 33 = .ok (.ireturn, 1) := by decide +kernel
theorem dX1_bestWord_0 : decode cX1_bestWord 0 = .ok (.aload_n 0, 1) := by decide +kernel
theorem dX1_bestWord_1 : decode cX1_bestWord 1 = .ok (.iconst 0, 1) := by decide +kernel
theorem dX1_bestWord_2 : decode cX1_bestWord 2 = .ok (.putfield 35, 3) := by decide +kernel
theorem dX1_bestWord_5 : decode cX1_bestWord 5 = .ok (.iload_n 1, 1) := by decide +kernel
theorem dX1_bestWord_6 : decode cX1_bestWord 6 = .ok (.invokestatic 109, 3) := by decide +kernel
theorem dX1_bestWord_9 : decode cX1_bestWord 9 = .ok (.ifCond .eq 11, 3) := by decide +kernel
theorem dX1_bestWord_12 : decode cX1_bestWord 12 = .ok (.aload_n 0, 1) := by decide +kernel
theorem dX1_bestWord_13 : decode cX1_bestWord 13 = .ok (.iload_n 1, 1) := by decide +kernel
theorem dX1_bestWord_14 : decode cX1_bestWord 14 = .ok (.invokevirtual 163, 3) := by decide +kernel
theorem dX1_bestWord_17 : decode cX1_bestWord 17 = .ok (.goto 8, 3) := by decide +kernel
theorem dX1_bestWord_20 : decode cX1_bestWord 20 = .ok (.aload_n 0, 1) := by decide +kernel
theorem dX1_bestWord_21 : decode cX1_bestWord 21 = .ok (.iconst 1, 1) := by decide +kernel
theorem dX1_bestWord_22 : decode cX1_bestWord 22 = .ok (.invokevirtual 112, 3) := by decide +kernel
theorem dX1_bestWord_25 : decode cX1_bestWord 25 = .ok (.ireturn, 1) := by decide +kernel
theorem dX1_bestStep_0 : decode cX1_bestStep 0 = .ok (.aload_n 0, 1) := by decide +kernel
theorem dX1_bestStep_1 : decode cX1_bestStep 1 = .ok (.aload_n 0, 1) := by decide +kernel
theorem dX1_bestStep_2 : decode cX1_bestStep 2 = .ok (.invokevirtual 166, 3) := by decide +kernel
theorem dX1_bestStep_5 : decode cX1_bestStep 5 = .ok (.invokevirtual 118, 3) := by decide +kernel
theorem dX1_bestStep_8 : decode cX1_bestStep 8 = .ok (.ireturn, 1) := by decide +kernel
theorem dX1_meanNote_0 : decode cX1_meanNote 0 = .ok (.aload_n 0, 1) := by decide +kernel
theorem dX1_meanNote_1 : decode cX1_meanNote 1 = .ok (.iconst 0, 1) := by decide +kernel
theorem dX1_meanNote_2 : decode cX1_meanNote 2 = .ok (.putfield 35, 3) := by decide +kernel
theorem dX1_meanNote_5 : decode cX1_meanNote 5 = .ok (.aload_n 0, 1) := by decide +kernel
theorem dX1_meanNote_6 : decode cX1_meanNote 6 = .ok (.aload_n 0, 1) := by decide +kernel
theorem dX1_meanNote_7 : decode cX1_meanNote 7 = .ok (.getfield 7, 3) := by decide +kernel
theorem dX1_meanNote_10 : decode cX1_meanNote 10 = .ok (.invokevirtual 68, 3) := by decide +kernel
theorem dX1_meanNote_13 : decode cX1_meanNote 13 = .ok (.iconst 0, 1) := by decide +kernel
theorem dX1_meanNote_14 : decode cX1_meanNote 14 = .ok (.istore_n 1, 1) := by decide +kernel
theorem dX1_meanNote_15 : decode cX1_meanNote 15 = .ok (.iconst 1, 1) := by decide +kernel
theorem dX1_meanNote_16 : decode cX1_meanNote 16 = .ok (.istore_n 2, 1) := by decide +kernel
theorem dX1_meanNote_17 : decode cX1_meanNote 17 = .ok (.iload_n 2, 1) := by decide +kernel
theorem dX1_meanNote_18 : decode cX1_meanNote 18 = .ok (.aload_n 0, 1) := by decide +kernel
theorem dX1_meanNote_19 : decode cX1_meanNote 19 = .ok (.getfield 38, 3) := by decide +kernel
theorem dX1_meanNote_22 : decode cX1_meanNote 22 = .ok (.if_icmp .gt 18, 3) := by decide +kernel
theorem dX1_meanNote_25 : decode cX1_meanNote 25 = .ok (.iload_n 1, 1) := by decide +kernel
theorem dX1_meanNote_26 : decode cX1_meanNote 26 = .ok (.aload_n 0, 1) := by decide +kernel
theorem dX1_meanNote_27 : decode cX1_meanNote 27 = .ok (.getfield 26, 3) := by decide +kernel
theorem dX1_meanNote_30 : decode cX1_meanNote 30 = .ok (.iload_n 2, 1) := by decide +kernel
theorem dX1_meanNote_31 : decode cX1_meanNote 31 = .ok (.iaload, 1) := by decide +kernel
theorem dX1_meanNote_32 : decode cX1_meanNote 32 = .ok (.iadd, 1) := by decide +kernel
theorem dX1_meanNote_33 : decode cX1_meanNote 33 = .ok (.istore_n 1, 1) := by decide +kernel
theorem dX1_meanNote_34 : decode cX1_meanNote 34 = .ok (.iinc 2 1, 3) := by decide +kernel
theorem dX1_meanNote_37 : decode cX1_meanNote 37 = .ok (.goto (-20), 3) := by decide +kernel
theorem dX1_meanNote_40 : decode cX1_meanNote 40 = .ok (.aload_n 0, 1) := by decide +kernel
theorem dX1_meanNote_41 : decode cX1_meanNote 41 = .ok (.getfield 38, 3) := by decide +kernel
theorem dX1_meanNote_44 : decode cX1_meanNote 44 = .ok (.ifCond .ne 7, 3) := by decide +kernel
theorem dX1_meanNote_47 : decode cX1_meanNote 47 = .ok (.dconst 0, 1) := by decide +kernel
theorem dX1_meanNote_48 : decode cX1_meanNote 48 = .ok (.goto 11, 3) := by decide +kernel
theorem dX1_meanNote_51 : decode cX1_meanNote 51 = .ok (.iload_n 1, 1) := by decide +kernel
theorem dX1_meanNote_52 : decode cX1_meanNote 52 = .ok (.i2d, 1) := by decide +kernel
theorem dX1_meanNote_53 : decode cX1_meanNote 53 = .ok (.aload_n 0, 1) := by decide +kernel
theorem dX1_meanNote_54 : decode cX1_meanNote 54 = .ok (.getfield 38, 3) := by decide +kernel
theorem dX1_meanNote_57 : decode cX1_meanNote 57 = .ok (.i2d, 1) := by decide +kernel
theorem dX1_meanNote_58 : decode cX1_meanNote 58 = .ok (.ddiv, 1) := by decide +kernel
theorem dX1_meanNote_59 : decode cX1_meanNote 59 = .ok (.dreturn, 1) := by decide +kernel
theorem dX1_digest_0 : decode cX1_digest 0 = .ok (.aload_n 0, 1) := by decide +kernel
theorem dX1_digest_1 : decode cX1_digest 1 = .ok (.iconst 0, 1) := by decide +kernel
theorem dX1_digest_2 : decode cX1_digest 2 = .ok (.putfield 35, 3) := by decide +kernel
theorem dX1_digest_5 : decode cX1_digest 5 = .ok (.bipush 10, 2) := by decide +kernel
theorem dX1_digest_7 : decode cX1_digest 7 = .ok (.newarray .int, 2) := by decide +kernel
theorem dX1_digest_9 : decode cX1_digest 9 = .ok (.dup, 1) := by decide +kernel
theorem dX1_digest_10 : decode cX1_digest 10 = .ok (.iconst 0, 1) := by decide +kernel
theorem dX1_digest_11 : decode cX1_digest 11 = .ok (.aload_n 0, 1) := by decide +kernel
theorem dX1_digest_12 : decode cX1_digest 12 = .ok (.getfield 38, 3) := by decide +kernel
theorem dX1_digest_15 : decode cX1_digest 15 = .ok (.iastore, 1) := by decide +kernel
theorem dX1_digest_16 : decode cX1_digest 16 = .ok (.dup, 1) := by decide +kernel
theorem dX1_digest_17 : decode cX1_digest 17 = .ok (.iconst 1, 1) := by decide +kernel
theorem dX1_digest_18 : decode cX1_digest 18 = .ok (.aload_n 0, 1) := by decide +kernel
theorem dX1_digest_19 : decode cX1_digest 19 = .ok (.getfield 7, 3) := by decide +kernel
theorem dX1_digest_22 : decode cX1_digest 22 = .ok (.iastore, 1) := by decide +kernel
theorem dX1_digest_23 : decode cX1_digest 23 = .ok (.dup, 1) := by decide +kernel
theorem dX1_digest_24 : decode cX1_digest 24 = .ok (.iconst 2, 1) := by decide +kernel
theorem dX1_digest_25 : decode cX1_digest 25 = .ok (.aload_n 0, 1) := by decide +kernel
theorem dX1_digest_26 : decode cX1_digest 26 = .ok (.aload_n 0, 1) := by decide +kernel
theorem dX1_digest_27 : decode cX1_digest 27 = .ok (.getfield 29, 3) := by decide +kernel
theorem dX1_digest_30 : decode cX1_digest 30 = .ok (.invokevirtual 121, 3) := by decide +kernel
theorem dX1_digest_33 : decode cX1_digest 33 = .ok (.iastore, 1) := by decide +kernel
theorem dX1_digest_34 : decode cX1_digest 34 = .ok (.dup, 1) := by decide +kernel
theorem dX1_digest_35 : decode cX1_digest 35 = .ok (.iconst 3, 1) := by decide +kernel
theorem dX1_digest_36 : decode cX1_digest 36 = .ok (.aload_n 0, 1) := by decide +kernel
theorem dX1_digest_37 : decode cX1_digest 37 = .ok (.aload_n 0, 1) := by decide +kernel
theorem dX1_digest_38 : decode cX1_digest 38 = .ok (.getfield 32, 3) := by decide +kernel
theorem dX1_digest_41 : decode cX1_digest 41 = .ok (.invokevirtual 121, 3) := by decide +kernel
theorem dX1_digest_44 : decode cX1_digest 44 = .ok (.iastore, 1) := by decide +kernel
theorem dX1_digest_45 : decode cX1_digest 45 = .ok (.dup, 1) := by decide +kernel
theorem dX1_digest_46 : decode cX1_digest 46 = .ok (.iconst 4, 1) := by decide +kernel
theorem dX1_digest_47 : decode cX1_digest 47 = .ok (.aload_n 0, 1) := by decide +kernel
theorem dX1_digest_48 : decode cX1_digest 48 = .ok (.invokevirtual 125, 3) := by decide +kernel
theorem dX1_digest_51 : decode cX1_digest 51 = .ok (.iastore, 1) := by decide +kernel
theorem dX1_digest_52 : decode cX1_digest 52 = .ok (.dup, 1) := by decide +kernel
theorem dX1_digest_53 : decode cX1_digest 53 = .ok (.iconst 5, 1) := by decide +kernel
theorem dX1_digest_54 : decode cX1_digest 54 = .ok (.aload_n 0, 1) := by decide +kernel
theorem dX1_digest_55 : decode cX1_digest 55 = .ok (.invokevirtual 129, 3) := by decide +kernel
theorem dX1_digest_58 : decode cX1_digest 58 = .ok (.iastore, 1) := by decide +kernel
theorem dX1_digest_59 : decode cX1_digest 59 = .ok (.dup, 1) := by decide +kernel
theorem dX1_digest_60 : decode cX1_digest 60 = .ok (.bipush 6, 2) := by decide +kernel
theorem dX1_digest_62 : decode cX1_digest 62 = .ok (.aload_n 0, 1) := by decide +kernel
theorem dX1_digest_63 : decode cX1_digest 63 = .ok (.invokevirtual 138, 3) := by decide +kernel
theorem dX1_digest_66 : decode cX1_digest 66 = .ok (.iastore, 1) := by decide +kernel
theorem dX1_digest_67 : decode cX1_digest 67 = .ok (.dup, 1) := by decide +kernel
theorem dX1_digest_68 : decode cX1_digest 68 = .ok (.bipush 7, 2) := by decide +kernel
theorem dX1_digest_70 : decode cX1_digest 70 = .ok (.aload_n 0, 1) := by decide +kernel
theorem dX1_digest_71 : decode cX1_digest 71 = .ok (.invokevirtual 141, 3) := by decide +kernel
theorem dX1_digest_74 : decode cX1_digest 74 = .ok (.iastore, 1) := by decide +kernel
theorem dX1_digest_75 : decode cX1_digest 75 = .ok (.dup, 1) := by decide +kernel
theorem dX1_digest_76 : decode cX1_digest 76 = .ok (.bipush 8, 2) := by decide +kernel
theorem dX1_digest_78 : decode cX1_digest 78 = .ok (.aload_n 0, 1) := by decide +kernel
theorem dX1_digest_79 : decode cX1_digest 79 = .ok (.invokevirtual 146, 3) := by decide +kernel
theorem dX1_digest_82 : decode cX1_digest 82 = .ok (.iastore, 1) := by decide +kernel
theorem dX1_digest_83 : decode cX1_digest 83 = .ok (.dup, 1) := by decide +kernel
theorem dX1_digest_84 : decode cX1_digest 84 = .ok (.bipush 9, 2) := by decide +kernel
theorem dX1_digest_86 : decode cX1_digest 86 = .ok (.aload_n 0, 1) := by decide +kernel
theorem dX1_digest_87 : decode cX1_digest 87 = .ok (.invokevirtual 157, 3) := by decide +kernel
theorem dX1_digest_90 : decode cX1_digest 90 = .ok (.iastore, 1) := by decide +kernel
theorem dX1_digest_91 : decode cX1_digest 91 = .ok (.astore_n 1, 1) := by decide +kernel
theorem dX1_digest_92 : decode cX1_digest 92 = .ok (.ldc2_w 169, 3) := by decide +kernel
theorem dX1_digest_95 : decode cX1_digest 95 = .ok (.lstore_n 2, 1) := by decide +kernel
theorem dX1_digest_96 : decode cX1_digest 96 = .ok (.aload_n 1, 1) := by decide +kernel
theorem dX1_digest_97 : decode cX1_digest 97 = .ok (.astore 4, 2) := by decide +kernel
theorem dX1_digest_99 : decode cX1_digest 99 = .ok (.aload 4, 2) := by decide +kernel
theorem dX1_digest_101 : decode cX1_digest 101 = .ok (.arraylength, 1) := by decide +kernel
theorem dX1_digest_102 : decode cX1_digest 102 = .ok (.istore 5, 2) := by decide +kernel
theorem dX1_digest_104 : decode cX1_digest 104 = .ok (.iconst 0, 1) := by decide +kernel
theorem dX1_digest_105 : decode cX1_digest 105 = .ok (.istore 6, 2) := by decide +kernel
theorem dX1_digest_107 : decode cX1_digest 107 = .ok (.iload 6, 2) := by decide +kernel
theorem dX1_digest_109 : decode cX1_digest 109 = .ok (.iload 5, 2) := by decide +kernel
theorem dX1_digest_111 : decode cX1_digest 111 = .ok (.if_icmp .ge 26, 3) := by decide +kernel
theorem dX1_digest_114 : decode cX1_digest 114 = .ok (.aload 4, 2) := by decide +kernel
theorem dX1_digest_116 : decode cX1_digest 116 = .ok (.iload 6, 2) := by decide +kernel
theorem dX1_digest_118 : decode cX1_digest 118 = .ok (.iaload, 1) := by decide +kernel
theorem dX1_digest_119 : decode cX1_digest 119 = .ok (.istore 7, 2) := by decide +kernel
theorem dX1_digest_121 : decode cX1_digest 121 = .ok (.lload_n 2, 1) := by decide +kernel
theorem dX1_digest_122 : decode cX1_digest 122 = .ok (.ldc2_w 171, 3) := by decide +kernel
theorem dX1_digest_125 : decode cX1_digest 125 = .ok (.lmul, 1) := by decide +kernel
theorem dX1_digest_126 : decode cX1_digest 126 = .ok (.iload 7, 2) := by decide +kernel
theorem dX1_digest_128 : decode cX1_digest 128 = .ok (.i2l, 1) := by decide +kernel
theorem dX1_digest_129 : decode cX1_digest 129 = .ok (.ladd, 1) := by decide +kernel
theorem dX1_digest_130 : decode cX1_digest 130 = .ok (.lstore_n 2, 1) := by decide +kernel
theorem dX1_digest_131 : decode cX1_digest 131 = .ok (.iinc 6 1, 3) := by decide +kernel
theorem dX1_digest_134 : decode cX1_digest 134 = .ok (.goto (-27), 3) := by decide +kernel
theorem dX1_digest_137 : decode cX1_digest 137 = .ok (.lload_n 2, 1) := by decide +kernel
theorem dX1_digest_138 : decode cX1_digest 138 = .ok (.ldc2_w 171, 3) := by decide +kernel
theorem dX1_digest_141 : decode cX1_digest 141 = .ok (.lmul, 1) := by decide +kernel
theorem dX1_digest_142 : decode cX1_digest 142 = .ok (.aload_n 0, 1) := by decide +kernel
theorem dX1_digest_143 : decode cX1_digest 143 = .ok (.invokevirtual 153, 3) := by decide +kernel
theorem dX1_digest_146 : decode cX1_digest 146 = .ok (.ladd, 1) := by decide +kernel
theorem dX1_digest_147 : decode cX1_digest 147 = .ok (.ldc2_w 171, 3) := by decide +kernel
theorem dX1_digest_150 : decode cX1_digest 150 = .ok (.lmul, 1) := by decide +kernel
theorem dX1_digest_151 : decode cX1_digest 151 = .ok (.aload_n 0, 1) := by decide +kernel
theorem dX1_digest_152 : decode cX1_digest 152 = .ok (.invokevirtual 166, 3) := by decide +kernel
theorem dX1_digest_155 : decode cX1_digest 155 = .ok (.i2l, 1) := by decide +kernel
theorem dX1_digest_156 : decode cX1_digest 156 = .ok (.ladd, 1) := by decide +kernel
theorem dX1_digest_157 : decode cX1_digest 157 = .ok (.lstore_n 2, 1) := by decide +kernel
theorem dX1_digest_158 : decode cX1_digest 158 = .ok (.iconst 0, 1) := by decide +kernel
theorem dX1_digest_159 : decode cX1_digest 159 = .ok (.istore 4, 2) := by decide +kernel
theorem dX1_digest_161 : decode cX1_digest 161 = .ok (.iload 4, 2) := by decide +kernel
theorem dX1_digest_163 : decode cX1_digest 163 = .ok (.aload_n 0, 1) := by decide +kernel
theorem dX1_digest_164 : decode cX1_digest 164 = .ok (.getfield 38, 3) := by decide +kernel
theorem dX1_digest_167 : decode cX1_digest 167 = .ok (.if_icmp .ge 147, 3) := by decide +kernel
theorem dX1_digest_170 : decode cX1_digest 170 = .ok (.bipush 8, 2) := by decide +kernel
theorem dX1_digest_172 : decode cX1_digest 172 = .ok (.newarray .int, 2) := by decide +kernel
theorem dX1_digest_174 : decode cX1_digest 174 = .ok (.dup, 1) := by decide +kernel
theorem dX1_digest_175 : decode cX1_digest 175 = .ok (.iconst 0, 1) := by decide +kernel
theorem dX1_digest_176 : decode cX1_digest 176 = .ok (.aload_n 0, 1) := by decide +kernel
theorem dX1_digest_177 : decode cX1_digest 177 = .ok (.getfield 13, 3) := by decide +kernel
theorem dX1_digest_180 : decode cX1_digest 180 = .ok (.iload 4, 2) := by decide +kernel
theorem dX1_digest_182 : decode cX1_digest 182 = .ok (.iaload, 1) := by decide +kernel
theorem dX1_digest_183 : decode cX1_digest 183 = .ok (.iastore, 1) := by decide +kernel
theorem dX1_digest_184 : decode cX1_digest 184 = .ok (.dup, 1) := by decide +kernel
theorem dX1_digest_185 : decode cX1_digest 185 = .ok (.iconst 1, 1) := by decide +kernel
theorem dX1_digest_186 : decode cX1_digest 186 = .ok (.aload_n 0, 1) := by decide +kernel
theorem dX1_digest_187 : decode cX1_digest 187 = .ok (.iload 4, 2) := by decide +kernel
theorem dX1_digest_189 : decode cX1_digest 189 = .ok (.invokevirtual 48, 3) := by decide +kernel
theorem dX1_digest_192 : decode cX1_digest 192 = .ok (.iastore, 1) := by decide +kernel
theorem dX1_digest_193 : decode cX1_digest 193 = .ok (.dup, 1) := by decide +kernel
theorem dX1_digest_194 : decode cX1_digest 194 = .ok (.iconst 2, 1) := by decide +kernel
theorem dX1_digest_195 : decode cX1_digest 195 = .ok (.aload_n 0, 1) := by decide +kernel
theorem dX1_digest_196 : decode cX1_digest 196 = .ok (.getfield 20, 3) := by decide +kernel
theorem dX1_digest_199 : decode cX1_digest 199 = .ok (.iload 4, 2) := by decide +kernel
theorem dX1_digest_201 : decode cX1_digest 201 = .ok (.iaload, 1) := by decide +kernel
theorem dX1_digest_202 : decode cX1_digest 202 = .ok (.iastore, 1) := by decide +kernel
theorem dX1_digest_203 : decode cX1_digest 203 = .ok (.dup, 1) := by decide +kernel
theorem dX1_digest_204 : decode cX1_digest 204 = .ok (.iconst 3, 1) := by decide +kernel
theorem dX1_digest_205 : decode cX1_digest 205 = .ok (.aload_n 0, 1) := by decide +kernel
theorem dX1_digest_206 : decode cX1_digest 206 = .ok (.iload 4, 2) := by decide +kernel
theorem dX1_digest_208 : decode cX1_digest 208 = .ok (.invokevirtual 132, 3) := by decide +kernel
theorem dX1_digest_211 : decode cX1_digest 211 = .ok (.iastore, 1) := by decide +kernel
theorem dX1_digest_212 : decode cX1_digest 212 = .ok (.dup, 1) := by decide +kernel
theorem dX1_digest_213 : decode cX1_digest 213 = .ok (.iconst 4, 1) := by decide +kernel
theorem dX1_digest_214 : decode cX1_digest 214 = .ok (.aload_n 0, 1) := by decide +kernel
theorem dX1_digest_215 : decode cX1_digest 215 = .ok (.getfield 23, 3) := by decide +kernel
theorem dX1_digest_218 : decode cX1_digest 218 = .ok (.aload_n 0, 1) := by decide +kernel
theorem dX1_digest_219 : decode cX1_digest 219 = .ok (.getfield 20, 3) := by decide +kernel
theorem dX1_digest_222 : decode cX1_digest 222 = .ok (.iload 4, 2) := by decide +kernel
theorem dX1_digest_224 : decode cX1_digest 224 = .ok (.iaload, 1) := by decide +kernel
theorem dX1_digest_225 : decode cX1_digest 225 = .ok (.iaload, 1) := by decide +kernel
theorem dX1_digest_226 : decode cX1_digest 226 = .ok (.iastore, 1) := by decide +kernel
theorem dX1_digest_227 : decode cX1_digest 227 = .ok (.dup, 1) := by decide +kernel
theorem dX1_digest_228 : decode cX1_digest 228 = .ok (.iconst 5, 1) := by decide +kernel
theorem dX1_digest_229 : decode cX1_digest 229 = .ok (.aload_n 0, 1) := by decide +kernel
theorem dX1_digest_230 : decode cX1_digest 230 = .ok (.iload 4, 2) := by decide +kernel
theorem dX1_digest_232 : decode cX1_digest 232 = .ok (.invokevirtual 91, 3) := by decide +kernel
theorem dX1_digest_235 : decode cX1_digest 235 = .ok (.iastore, 1) := by decide +kernel
theorem dX1_digest_236 : decode cX1_digest 236 = .ok (.dup, 1) := by decide +kernel
theorem dX1_digest_237 : decode cX1_digest 237 = .ok (.bipush 6, 2) := by decide +kernel
theorem dX1_digest_239 : decode cX1_digest 239 = .ok (.aload_n 0, 1) := by decide +kernel
theorem dX1_digest_240 : decode cX1_digest 240 = .ok (.iload 4, 2) := by decide +kernel
theorem dX1_digest_242 : decode cX1_digest 242 = .ok (.invokevirtual 149, 3) := by decide +kernel
theorem dX1_digest_245 : decode cX1_digest 245 = .ok (.iastore, 1) := by decide +kernel
theorem dX1_digest_246 : decode cX1_digest 246 = .ok (.dup, 1) := by decide +kernel
theorem dX1_digest_247 : decode cX1_digest 247 = .ok (.bipush 7, 2) := by decide +kernel
theorem dX1_digest_249 : decode cX1_digest 249 = .ok (.aload_n 0, 1) := by decide +kernel
theorem dX1_digest_250 : decode cX1_digest 250 = .ok (.iload 4, 2) := by decide +kernel
theorem dX1_digest_252 : decode cX1_digest 252 = .ok (.invokevirtual 88, 3) := by decide +kernel
theorem dX1_digest_255 : decode cX1_digest 255 = .ok (.ifCond .eq 7, 3) := by decide +kernel
theorem dX1_digest_258 : decode cX1_digest 258 = .ok (.iconst 1, 1) := by decide +kernel
theorem dX1_digest_259 : decode cX1_digest 259 = .ok (.goto 4, 3) := by decide +kernel
theorem dX1_digest_262 : decode cX1_digest 262 = .ok (.iconst 0, 1) := by decide +kernel
theorem dX1_digest_263 : decode cX1_digest 263 = .ok (.iastore, 1) := by decide +kernel
theorem dX1_digest_264 : decode cX1_digest 264 = .ok (.astore 5, 2) := by decide +kernel
theorem dX1_digest_266 : decode cX1_digest 266 = .ok (.aload 5, 2) := by decide +kernel
theorem dX1_digest_268 : decode cX1_digest 268 = .ok (.astore 6, 2) := by decide +kernel
theorem dX1_digest_270 : decode cX1_digest 270 = .ok (.aload 6, 2) := by decide +kernel
theorem dX1_digest_272 : decode cX1_digest 272 = .ok (.arraylength, 1) := by decide +kernel
theorem dX1_digest_273 : decode cX1_digest 273 = .ok (.istore 7, 2) := by decide +kernel
theorem dX1_digest_275 : decode cX1_digest 275 = .ok (.iconst 0, 1) := by decide +kernel
theorem dX1_digest_276 : decode cX1_digest 276 = .ok (.istore 8, 2) := by decide +kernel
theorem dX1_digest_278 : decode cX1_digest 278 = .ok (.iload 8, 2) := by decide +kernel
theorem dX1_digest_280 : decode cX1_digest 280 = .ok (.iload 7, 2) := by decide +kernel
theorem dX1_digest_282 : decode cX1_digest 282 = .ok (.if_icmp .ge 26, 3) := by decide +kernel
theorem dX1_digest_285 : decode cX1_digest 285 = .ok (.aload 6, 2) := by decide +kernel
theorem dX1_digest_287 : decode cX1_digest 287 = .ok (.iload 8, 2) := by decide +kernel
theorem dX1_digest_289 : decode cX1_digest 289 = .ok (.iaload, 1) := by decide +kernel
theorem dX1_digest_290 : decode cX1_digest 290 = .ok (.istore 9, 2) := by decide +kernel
theorem dX1_digest_292 : decode cX1_digest 292 = .ok (.lload_n 2, 1) := by decide +kernel
theorem dX1_digest_293 : decode cX1_digest 293 = .ok (.ldc2_w 171, 3) := by decide +kernel
theorem dX1_digest_296 : decode cX1_digest 296 = .ok (.lmul, 1) := by decide +kernel
theorem dX1_digest_297 : decode cX1_digest 297 = .ok (.iload 9, 2) := by decide +kernel
theorem dX1_digest_299 : decode cX1_digest 299 = .ok (.i2l, 1) := by decide +kernel
theorem dX1_digest_300 : decode cX1_digest 300 = .ok (.ladd, 1) := by decide +kernel
theorem dX1_digest_301 : decode cX1_digest 301 = .ok (.lstore_n 2, 1) := by decide +kernel
theorem dX1_digest_302 : decode cX1_digest 302 = .ok (.iinc 8 1, 3) := by decide +kernel
theorem dX1_digest_305 : decode cX1_digest 305 = .ok (.goto (-27), 3) := by decide +kernel
theorem dX1_digest_308 : decode cX1_digest 308 = .ok (.iinc 4 1, 3) := by decide +kernel
theorem dX1_digest_311 : decode cX1_digest 311 = .ok (.goto (-150), 3) := by decide +kernel
theorem dX1_digest_314 : decode cX1_digest 314 = .ok (.iconst 0, 1) := by decide +kernel
theorem dX1_digest_315 : decode cX1_digest 315 = .ok (.istore 4, 2) := by decide +kernel
theorem dX1_digest_317 : decode cX1_digest 317 = .ok (.iload 4, 2) := by decide +kernel
theorem dX1_digest_319 : decode cX1_digest 319 = .ok (.bipush 10, 2) := by decide +kernel
theorem dX1_digest_321 : decode cX1_digest 321 = .ok (.if_icmp .ge 36, 3) := by decide +kernel
theorem dX1_digest_324 : decode cX1_digest 324 = .ok (.lload_n 2, 1) := by decide +kernel
theorem dX1_digest_325 : decode cX1_digest 325 = .ok (.ldc2_w 171, 3) := by decide +kernel
theorem dX1_digest_328 : decode cX1_digest 328 = .ok (.lmul, 1) := by decide +kernel
theorem dX1_digest_329 : decode cX1_digest 329 = .ok (.aload_n 0, 1) := by decide +kernel
theorem dX1_digest_330 : decode cX1_digest 330 = .ok (.getfield 23, 3) := by decide +kernel
theorem dX1_digest_333 : decode cX1_digest 333 = .ok (.iload 4, 2) := by decide +kernel
theorem dX1_digest_335 : decode cX1_digest 335 = .ok (.iaload, 1) := by decide +kernel
theorem dX1_digest_336 : decode cX1_digest 336 = .ok (.i2l, 1) := by decide +kernel
theorem dX1_digest_337 : decode cX1_digest 337 = .ok (.ladd, 1) := by decide +kernel
theorem dX1_digest_338 : decode cX1_digest 338 = .ok (.ldc2_w 171, 3) := by decide +kernel
theorem dX1_digest_341 : decode cX1_digest 341 = .ok (.lmul, 1) := by decide +kernel
theorem dX1_digest_342 : decode cX1_digest 342 = .ok (.aload_n 0, 1) := by decide +kernel
theorem dX1_digest_343 : decode cX1_digest 343 = .ok (.iload 4, 2) := by decide +kernel
theorem dX1_digest_345 : decode cX1_digest 345 = .ok (.invokevirtual 163, 3) := by decide +kernel
theorem dX1_digest_348 : decode cX1_digest 348 = .ok (.i2l, 1) := by decide +kernel
theorem dX1_digest_349 : decode cX1_digest 349 = .ok (.ladd, 1) := by decide +kernel
theorem dX1_digest_350 : decode cX1_digest 350 = .ok (.lstore_n 2, 1) := by decide +kernel
theorem dX1_digest_351 : decode cX1_digest 351 = .ok (.iinc 4 1, 3) := by decide +kernel
theorem dX1_digest_354 : decode cX1_digest 354 = .ok (.goto (-37), 3) := by decide +kernel
theorem dX1_digest_357 : decode cX1_digest 357 = .ok (.lload_n 2, 1) := by decide +kernel
theorem dX1_digest_358 : decode cX1_digest 358 = .ok (.lreturn, 1) := by decide +kernel
end
section
theorem dJ9_floorMod_7cf53_0 : decode cJ9_floorMod_7cf53 0 = .ok (.iload_n 0, 1) := by decide +kernel
theorem dJ9_floorMod_7cf53_1 : decode cJ9_floorMod_7cf53 1 = .ok (.iload_n 1, 1) := by decide +kernel
theorem dJ9_floorMod_7cf53_2 : decode cJ9_floorMod_7cf53 2 = .ok (.irem, 1) := by decide +kernel
theorem dJ9_floorMod_7cf53_3 : decode cJ9_floorMod_7cf53 3 = .ok (.istore_n 2, 1) := by decide +kernel
theorem dJ9_floorMod_7cf53_4 : decode cJ9_floorMod_7cf53 4 = .ok (.iload_n 0, 1) := by decide +kernel
theorem dJ9_floorMod_7cf53_5 : decode cJ9_floorMod_7cf53 5 = .ok (.iload_n 1, 1) := by decide +kernel
theorem dJ9_floorMod_7cf53_6 : decode cJ9_floorMod_7cf53 6 = .ok (.ixor, 1) := by decide +kernel
theorem dJ9_floorMod_7cf53_7 : decode cJ9_floorMod_7cf53 7 = .ok (.ifCond .ge 11, 3) := by decide +kernel
theorem dJ9_floorMod_7cf53_10 : decode cJ9_floorMod_7cf53 10 = .ok (.iload_n 2, 1) := by decide +kernel
theorem dJ9_floorMod_7cf53_11 : decode cJ9_floorMod_7cf53 11 = .ok (.ifCond .eq 7, 3) := by decide +kernel
theorem dJ9_floorMod_7cf53_14 : decode cJ9_floorMod_7cf53 14 = .ok (.iload_n 2, 1) := by decide +kernel
theorem dJ9_floorMod_7cf53_15 : decode cJ9_floorMod_7cf53 15 = .ok (.iload_n 1, 1) := by decide +kernel
theorem dJ9_floorMod_7cf53_16 : decode cJ9_floorMod_7cf53 16 = .ok (.iadd, 1) := by decide +kernel
theorem dJ9_floorMod_7cf53_17 : decode cJ9_floorMod_7cf53 17 = .ok (.ireturn, 1) := by decide +kernel
theorem dJ9_floorMod_7cf53_18 : decode cJ9_floorMod_7cf53 18 = .ok (.iload_n 2, 1) := by decide +kernel
theorem dJ9_floorMod_7cf53_19 : decode cJ9_floorMod_7cf53 19 = .ok (.ireturn, 1) := by decide +kernel
theorem dJ9_abs_0f7a4_0 : decode cJ9_abs_0f7a4 0 = .ok (.iload_n 0, 1) := by decide +kernel
theorem dJ9_abs_0f7a4_1 : decode cJ9_abs_0f7a4 1 = .ok (.ifCond .ge 8, 3) := by decide +kernel
theorem dJ9_abs_0f7a4_4 : decode cJ9_abs_0f7a4 4 = .ok (.iload_n 0, 1) := by decide +kernel
theorem dJ9_abs_0f7a4_5 : decode cJ9_abs_0f7a4 5 = .ok (.ineg, 1) := by decide +kernel
theorem dJ9_abs_0f7a4_6 : decode cJ9_abs_0f7a4 6 = .ok (.goto 4, 3) := by decide +kernel
theorem dJ9_abs_0f7a4_9 : decode cJ9_abs_0f7a4 9 = .ok (.iload_n 0, 1) := by decide +kernel
theorem dJ9_abs_0f7a4_10 : decode cJ9_abs_0f7a4 10 = .ok (.ireturn, 1) := by decide +kernel
theorem dJ9_max_7cf53_0 : decode cJ9_max_7cf53 0 = .ok (.iload_n 0, 1) := by decide +kernel
theorem dJ9_max_7cf53_1 : decode cJ9_max_7cf53 1 = .ok (.iload_n 1, 1) := by decide +kernel
theorem dJ9_max_7cf53_2 : decode cJ9_max_7cf53 2 = .ok (.if_icmp .lt 7, 3) := by decide +kernel
theorem dJ9_max_7cf53_5 : decode cJ9_max_7cf53 5 = .ok (.iload_n 0, 1) := by decide +kernel
theorem dJ9_max_7cf53_6 : decode cJ9_max_7cf53 6 = .ok (.goto 4, 3) := by decide +kernel
theorem dJ9_max_7cf53_9 : decode cJ9_max_7cf53 9 = .ok (.iload_n 1, 1) := by decide +kernel
theorem dJ9_max_7cf53_10 : decode cJ9_max_7cf53 10 = .ok (.ireturn, 1) := by decide +kernel
theorem dJ9_min_7cf53_0 : decode cJ9_min_7cf53 0 = .ok (.iload_n 0, 1) := by decide +kernel
theorem dJ9_min_7cf53_1 : decode cJ9_min_7cf53 1 = .ok (.iload_n 1, 1) := by decide +kernel
theorem dJ9_min_7cf53_2 : decode cJ9_min_7cf53 2 = .ok (.if_icmp .gt 7, 3) := by decide +kernel
theorem dJ9_min_7cf53_5 : decode cJ9_min_7cf53 5 = .ok (.iload_n 0, 1) := by decide +kernel
theorem dJ9_min_7cf53_6 : decode cJ9_min_7cf53 6 = .ok (.goto 4, 3) := by decide +kernel
theorem dJ9_min_7cf53_9 : decode cJ9_min_7cf53 9 = .ok (.iload_n 1, 1) := by decide +kernel
theorem dJ9_min_7cf53_10 : decode cJ9_min_7cf53 10 = .ok (.ireturn, 1) := by decide +kernel
theorem dJ9_min_f86c9_0 : decode cJ9_min_f86c9 0 = .ok (.lload_n 0, 1) := by decide +kernel
theorem dJ9_min_f86c9_1 : decode cJ9_min_f86c9 1 = .ok (.lload_n 2, 1) := by decide +kernel
theorem dJ9_min_f86c9_2 : decode cJ9_min_f86c9 2 = .ok (.lcmp, 1) := by decide +kernel
theorem dJ9_min_f86c9_3 : decode cJ9_min_f86c9 3 = .ok (.ifCond .gt 7, 3) := by decide +kernel
theorem dJ9_min_f86c9_6 : decode cJ9_min_f86c9 6 = .ok (.lload_n 0, 1) := by decide +kernel
theorem dJ9_min_f86c9_7 : decode cJ9_min_f86c9 7 = .ok (.goto 4, 3) := by decide +kernel
theorem dJ9_min_f86c9_10 : decode cJ9_min_f86c9 10 = .ok (.lload_n 2, 1) := by decide +kernel
theorem dJ9_min_f86c9_11 : decode cJ9_min_f86c9 11 = .ok (.lreturn, 1) := by decide +kernel
theorem dL_addLeg_0 : decode cL_addLeg 0 = .ok (.aload 4, 2) := by decide +kernel
theorem dL_addLeg_2 : decode cL_addLeg 2 = .ok (.iconst 0, 1) := by decide +kernel
theorem dL_addLeg_3 : decode cL_addLeg 3 = .ok (.aload_n 0, 1) := by decide +kernel
theorem dL_addLeg_4 : decode cL_addLeg 4 = .ok (.iload_n 1, 1) := by decide +kernel
theorem dL_addLeg_5 : decode cL_addLeg 5 = .ok (.iload_n 2, 1) := by decide +kernel
theorem dL_addLeg_6 : decode cL_addLeg 6 = .ok (.iload_n 3, 1) := by decide +kernel
theorem dL_addLeg_7 : decode cL_addLeg 7 = .ok (.invokevirtual 7, 3) := by decide +kernel
theorem dL_addLeg_10 : decode cL_addLeg 10 = .ok (.i2l, 1) := by decide +kernel
theorem dL_addLeg_11 : decode cL_addLeg 11 = .ok (.lastore, 1) := by decide +kernel
theorem dL_addLeg_12 : decode cL_addLeg 12 = .ok (.goto 11, 3) := by decide +kernel
theorem dL_addLeg_15 : decode cL_addLeg 15 = .ok (.astore 5, 2) := by decide +kernel
theorem dL_addLeg_17 : decode cL_addLeg 17 = .ok (.iconst 1, 1) := by decide +kernel
theorem dL_addLeg_18 : decode cL_addLeg 18 = .ok (.ireturn, 1) := by decide +kernel
theorem dL_addLeg_19 : decode cL_addLeg 19 = .ok (.astore 5, 2) := by decide +kernel
theorem dL_addLeg_21 : decode cL_addLeg 21 = .ok (.iconst 2, 1) := by decide +kernel
theorem dL_addLeg_22 : decode cL_addLeg 22 = .ok (.ireturn, 1) := by decide +kernel
theorem dL_addLeg_23 : decode cL_addLeg 23 = .ok (.iconst 0, 1) := by decide +kernel
theorem dL_addLeg_24 : decode cL_addLeg 24 = .ok (.ireturn, 1) := by decide +kernel
theorem dL_strikeLeg_0 : decode cL_strikeLeg 0 = .ok (.aload_n 1, 1) := by decide +kernel
theorem dL_strikeLeg_1 : decode cL_strikeLeg 1 = .ok (.iconst 0, 1) := by decide +kernel
theorem dL_strikeLeg_2 : decode cL_strikeLeg 2 = .ok (.aload_n 0, 1) := by decide +kernel
theorem dL_strikeLeg_3 : decode cL_strikeLeg 3 = .ok (.invokevirtual 17, 3) := by decide +kernel
theorem dL_strikeLeg_6 : decode cL_strikeLeg 6 = .ok (.i2l, 1) := by decide +kernel
theorem dL_strikeLeg_7 : decode cL_strikeLeg 7 = .ok (.lastore, 1) := by decide +kernel
theorem dL_strikeLeg_8 : decode cL_strikeLeg 8 = .ok (.goto 6, 3) := by decide +kernel
theorem dL_strikeLeg_11 : decode cL_strikeLeg 11 = .ok (.astore_n 2, 1) := by decide +kernel
theorem dL_strikeLeg_12 : decode cL_strikeLeg 12 = .ok (.iconst 1, 1) := by decide +kernel
theorem dL_strikeLeg_13 : decode cL_strikeLeg 13 = .ok (.ireturn, 1) := by decide +kernel
theorem dL_strikeLeg_14 : decode cL_strikeLeg 14 = .ok (.iconst 0, 1) := by decide +kernel
theorem dL_strikeLeg_15 : decode cL_strikeLeg 15 = .ok (.ireturn, 1) := by decide +kernel
theorem dL_bend_0 : decode cL_bend 0 = .ok (.aload_n 3, 1) := by decide +kernel
theorem dL_bend_1 : decode cL_bend 1 = .ok (.iconst 0, 1) := by decide +kernel
theorem dL_bend_2 : decode cL_bend 2 = .ok (.aload_n 0, 1) := by decide +kernel
theorem dL_bend_3 : decode cL_bend 3 = .ok (.iload_n 1, 1) := by decide +kernel
theorem dL_bend_4 : decode cL_bend 4 = .ok (.iload_n 2, 1) := by decide +kernel
theorem dL_bend_5 : decode cL_bend 5 = .ok (.invokevirtual 21, 3) := by decide +kernel
theorem dL_bend_8 : decode cL_bend 8 = .ok (.i2l, 1) := by decide +kernel
theorem dL_bend_9 : decode cL_bend 9 = .ok (.lastore, 1) := by decide +kernel
theorem dL_bend_10 : decode cL_bend 10 = .ok (.goto 11, 3) := by decide +kernel
theorem dL_bend_13 : decode cL_bend 13 = .ok (.astore 4, 2) := by decide +kernel
theorem dL_bend_15 : decode cL_bend 15 = .ok (.iconst 1, 1) := by decide +kernel
theorem dL_bend_16 : decode cL_bend 16 = .ok (.ireturn, 1) := by decide +kernel
theorem dL_bend_17 : decode cL_bend 17 = .ok (.astore 4, 2) := by decide +kernel
theorem dL_bend_19 : decode cL_bend 19 = .ok (.iconst 2, 1) := by decide +kernel
theorem dL_bend_20 : decode cL_bend 20 = .ok (.ireturn, 1) := by decide +kernel
theorem dL_bend_21 : decode cL_bend 21 = .ok (.iconst 0, 1) := by decide +kernel
theorem dL_bend_22 : decode cL_bend 22 = .ok (.ireturn, 1) := by decide +kernel
theorem dL_setWord_0 : decode cL_setWord 0 = .ok (.aload_n 3, 1) := by decide +kernel
theorem dL_setWord_1 : decode cL_setWord 1 = .ok (.iconst 0, 1) := by decide +kernel
theorem dL_setWord_2 : decode cL_setWord 2 = .ok (.aload_n 0, 1) := by decide +kernel
theorem dL_setWord_3 : decode cL_setWord 3 = .ok (.iload_n 1, 1) := by decide +kernel
theorem dL_setWord_4 : decode cL_setWord 4 = .ok (.iload_n 2, 1) := by decide +kernel
theorem dL_setWord_5 : decode cL_setWord 5 = .ok (.invokevirtual 27, 3) := by decide +kernel
theorem dL_setWord_8 : decode cL_setWord 8 = .ok (.i2l, 1) := by decide +kernel
theorem dL_setWord_9 : decode cL_setWord 9 = .ok (.lastore, 1) := by decide +kernel
theorem dL_setWord_10 : decode cL_setWord 10 = .ok (.goto 11, 3) := by decide +kernel
theorem dL_setWord_13 : decode cL_setWord 13 = .ok (.astore 4, 2) := by decide +kernel
theorem dL_setWord_15 : decode cL_setWord 15 = .ok (.iconst 1, 1) := by decide +kernel
theorem dL_setWord_16 : decode cL_setWord 16 = .ok (.ireturn, 1) := by decide +kernel
theorem dL_setWord_17 : decode cL_setWord 17 = .ok (.astore 4, 2) := by decide +kernel
theorem dL_setWord_19 : decode cL_setWord 19 = .ok (.iconst 2, 1) := by decide +kernel
theorem dL_setWord_20 : decode cL_setWord 20 = .ok (.ireturn, 1) := by decide +kernel
theorem dL_setWord_21 : decode cL_setWord 21 = .ok (.iconst 0, 1) := by decide +kernel
theorem dL_setWord_22 : decode cL_setWord 22 = .ok (.ireturn, 1) := by decide +kernel
theorem dL_setStep_0 : decode cL_setStep 0 = .ok (.aload_n 2, 1) := by decide +kernel
theorem dL_setStep_1 : decode cL_setStep 1 = .ok (.iconst 0, 1) := by decide +kernel
theorem dL_setStep_2 : decode cL_setStep 2 = .ok (.aload_n 0, 1) := by decide +kernel
theorem dL_setStep_3 : decode cL_setStep 3 = .ok (.iload_n 1, 1) := by decide +kernel
theorem dL_setStep_4 : decode cL_setStep 4 = .ok (.invokevirtual 30, 3) := by decide +kernel
theorem dL_setStep_7 : decode cL_setStep 7 = .ok (.i2l, 1) := by decide +kernel
theorem dL_setStep_8 : decode cL_setStep 8 = .ok (.lastore, 1) := by decide +kernel
theorem dL_setStep_9 : decode cL_setStep 9 = .ok (.goto 6, 3) := by decide +kernel
theorem dL_setStep_12 : decode cL_setStep 12 = .ok (.astore_n 3, 1) := by decide +kernel
theorem dL_setStep_13 : decode cL_setStep 13 = .ok (.iconst 1, 1) := by decide +kernel
theorem dL_setStep_14 : decode cL_setStep 14 = .ok (.ireturn, 1) := by decide +kernel
theorem dL_setStep_15 : decode cL_setStep 15 = .ok (.iconst 0, 1) := by decide +kernel
theorem dL_setStep_16 : decode cL_setStep 16 = .ok (.ireturn, 1) := by decide +kernel
theorem dL_turnOf_0 : decode cL_turnOf 0 = .ok (.aload_n 2, 1) := by decide +kernel
theorem dL_turnOf_1 : decode cL_turnOf 1 = .ok (.iconst 0, 1) := by decide +kernel
theorem dL_turnOf_2 : decode cL_turnOf 2 = .ok (.aload_n 0, 1) := by decide +kernel
theorem dL_turnOf_3 : decode cL_turnOf 3 = .ok (.iload_n 1, 1) := by decide +kernel
theorem dL_turnOf_4 : decode cL_turnOf 4 = .ok (.invokevirtual 34, 3) := by decide +kernel
theorem dL_turnOf_7 : decode cL_turnOf 7 = .ok (.i2l, 1) := by decide +kernel
theorem dL_turnOf_8 : decode cL_turnOf 8 = .ok (.lastore, 1) := by decide +kernel
theorem dL_turnOf_9 : decode cL_turnOf 9 = .ok (.goto 6, 3) := by decide +kernel
theorem dL_turnOf_12 : decode cL_turnOf 12 = .ok (.astore_n 3, 1) := by decide +kernel
theorem dL_turnOf_13 : decode cL_turnOf 13 = .ok (.iconst 1, 1) := by decide +kernel
theorem dL_turnOf_14 : decode cL_turnOf 14 = .ok (.ireturn, 1) := by decide +kernel
theorem dL_turnOf_15 : decode cL_turnOf 15 = .ok (.iconst 0, 1) := by decide +kernel
theorem dL_turnOf_16 : decode cL_turnOf 16 = .ok (.ireturn, 1) := by decide +kernel
theorem dL_headingOf_0 : decode cL_headingOf 0 = .ok (.aload_n 2, 1) := by decide +kernel
theorem dL_headingOf_1 : decode cL_headingOf 1 = .ok (.iconst 0, 1) := by decide +kernel
theorem dL_headingOf_2 : decode cL_headingOf 2 = .ok (.aload_n 0, 1) := by decide +kernel
theorem dL_headingOf_3 : decode cL_headingOf 3 = .ok (.iload_n 1, 1) := by decide +kernel
theorem dL_headingOf_4 : decode cL_headingOf 4 = .ok (.invokevirtual 37, 3) := by decide +kernel
theorem dL_headingOf_7 : decode cL_headingOf 7 = .ok (.i2l, 1) := by decide +kernel
theorem dL_headingOf_8 : decode cL_headingOf 8 = .ok (.lastore, 1) := by decide +kernel
theorem dL_headingOf_9 : decode cL_headingOf 9 = .ok (.goto 6, 3) := by decide +kernel
theorem dL_headingOf_12 : decode cL_headingOf 12 = .ok (.astore_n 3, 1) := by decide +kernel
theorem dL_headingOf_13 : decode cL_headingOf 13 = .ok (.iconst 1, 1) := by decide +kernel
theorem dL_headingOf_14 : decode cL_headingOf 14 = .ok (.ireturn, 1) := by decide +kernel
theorem dL_headingOf_15 : decode cL_headingOf 15 = .ok (.iconst 0, 1) := by decide +kernel
theorem dL_headingOf_16 : decode cL_headingOf 16 = .ok (.ireturn, 1) := by decide +kernel
theorem dL_landmarkOf_0 : decode cL_landmarkOf 0 = .ok (.aload_n 2, 1) := by decide +kernel
theorem dL_landmarkOf_1 : decode cL_landmarkOf 1 = .ok (.iconst 0, 1) := by decide +kernel
theorem dL_landmarkOf_2 : decode cL_landmarkOf 2 = .ok (.aload_n 0, 1) := by decide +kernel
theorem dL_landmarkOf_3 : decode cL_landmarkOf 3 = .ok (.iload_n 1, 1) := by decide +kernel
theorem dL_landmarkOf_4 : decode cL_landmarkOf 4 = .ok (.invokevirtual 40, 3) := by decide +kernel
theorem dL_landmarkOf_7 : decode cL_landmarkOf 7 = .ok (.i2l, 1) := by decide +kernel
theorem dL_landmarkOf_8 : decode cL_landmarkOf 8 = .ok (.lastore, 1) := by decide +kernel
theorem dL_landmarkOf_9 : decode cL_landmarkOf 9 = .ok (.goto 6, 3) := by decide +kernel
theorem dL_landmarkOf_12 : decode cL_landmarkOf 12 = .ok (.astore_n 3, 1) := by decide +kernel
theorem dL_landmarkOf_13 : decode cL_landmarkOf 13 = .ok (.iconst 1, 1) := by decide +kernel
theorem dL_landmarkOf_14 : decode cL_landmarkOf 14 = .ok (.ireturn, 1) := by decide +kernel
theorem dL_landmarkOf_15 : decode cL_landmarkOf 15 = .ok (.iconst 0, 1) := by decide +kernel
theorem dL_landmarkOf_16 : decode cL_landmarkOf 16 = .ok (.ireturn, 1) := by decide +kernel
theorem dL_noteOf_0 : decode cL_noteOf 0 = .ok (.aload_n 2, 1) := by decide +kernel
theorem dL_noteOf_1 : decode cL_noteOf 1 = .ok (.iconst 0, 1) := by decide +kernel
theorem dL_noteOf_2 : decode cL_noteOf 2 = .ok (.aload_n 0, 1) := by decide +kernel
theorem dL_noteOf_3 : decode cL_noteOf 3 = .ok (.iload_n 1, 1) := by decide +kernel
theorem dL_noteOf_4 : decode cL_noteOf 4 = .ok (.invokevirtual 43, 3) := by decide +kernel
theorem dL_noteOf_7 : decode cL_noteOf 7 = .ok (.i2l, 1) := by decide +kernel
theorem dL_noteOf_8 : decode cL_noteOf 8 = .ok (.lastore, 1) := by decide +kernel
theorem dL_noteOf_9 : decode cL_noteOf 9 = .ok (.goto 6, 3) := by decide +kernel
theorem dL_noteOf_12 : decode cL_noteOf 12 = .ok (.astore_n 3, 1) := by decide +kernel
theorem dL_noteOf_13 : decode cL_noteOf 13 = .ok (.iconst 1, 1) := by decide +kernel
theorem dL_noteOf_14 : decode cL_noteOf 14 = .ok (.ireturn, 1) := by decide +kernel
theorem dL_noteOf_15 : decode cL_noteOf 15 = .ok (.iconst 0, 1) := by decide +kernel
theorem dL_noteOf_16 : decode cL_noteOf 16 = .ok (.ireturn, 1) := by decide +kernel
theorem dL_isFolded_0 : decode cL_isFolded 0 = .ok (.aload_n 2, 1) := by decide +kernel
theorem dL_isFolded_1 : decode cL_isFolded 1 = .ok (.iconst 0, 1) := by decide +kernel
theorem dL_isFolded_2 : decode cL_isFolded 2 = .ok (.aload_n 0, 1) := by decide +kernel
theorem dL_isFolded_3 : decode cL_isFolded 3 = .ok (.iload_n 1, 1) := by decide +kernel
theorem dL_isFolded_4 : decode cL_isFolded 4 = .ok (.invokevirtual 46, 3) := by decide +kernel
theorem dL_isFolded_7 : decode cL_isFolded 7 = .ok (.ifCond .eq 7, 3) := by decide +kernel
theorem dL_isFolded_10 : decode cL_isFolded 10 = .ok (.lconst 1, 1) := by decide +kernel
theorem dL_isFolded_11 : decode cL_isFolded 11 = .ok (.goto 4, 3) := by decide +kernel
theorem dL_isFolded_14 : decode cL_isFolded 14 = .ok (.lconst 0, 1) := by decide +kernel
theorem dL_isFolded_15 : decode cL_isFolded 15 = .ok (.lastore, 1) := by decide +kernel
theorem dL_isFolded_16 : decode cL_isFolded 16 = .ok (.goto 6, 3) := by decide +kernel
theorem dL_isFolded_19 : decode cL_isFolded 19 = .ok (.astore_n 3, 1) := by decide +kernel
theorem dL_isFolded_20 : decode cL_isFolded 20 = .ok (.iconst 1, 1) := by decide +kernel
theorem dL_isFolded_21 : decode cL_isFolded 21 = .ok (.ireturn, 1) := by decide +kernel
theorem dL_isFolded_22 : decode cL_isFolded 22 = .ok (.iconst 0, 1) := by decide +kernel
theorem dL_isFolded_23 : decode cL_isFolded 23 = .ok (.ireturn, 1) := by decide +kernel
theorem dL_wordIn_0 : decode cL_wordIn 0 = .ok (.aload_n 2, 1) := by decide +kernel
theorem dL_wordIn_1 : decode cL_wordIn 1 = .ok (.iconst 0, 1) := by decide +kernel
theorem dL_wordIn_2 : decode cL_wordIn 2 = .ok (.aload_n 0, 1) := by decide +kernel
theorem dL_wordIn_3 : decode cL_wordIn 3 = .ok (.iload_n 1, 1) := by decide +kernel
theorem dL_wordIn_4 : decode cL_wordIn 4 = .ok (.invokevirtual 50, 3) := by decide +kernel
theorem dL_wordIn_7 : decode cL_wordIn 7 = .ok (.i2l, 1) := by decide +kernel
theorem dL_wordIn_8 : decode cL_wordIn 8 = .ok (.lastore, 1) := by decide +kernel
theorem dL_wordIn_9 : decode cL_wordIn 9 = .ok (.goto 6, 3) := by decide +kernel
theorem dL_wordIn_12 : decode cL_wordIn 12 = .ok (.astore_n 3, 1) := by decide +kernel
theorem dL_wordIn_13 : decode cL_wordIn 13 = .ok (.iconst 1, 1) := by decide +kernel
theorem dL_wordIn_14 : decode cL_wordIn 14 = .ok (.ireturn, 1) := by decide +kernel
theorem dL_wordIn_15 : decode cL_wordIn 15 = .ok (.iconst 0, 1) := by decide +kernel
theorem dL_wordIn_16 : decode cL_wordIn 16 = .ok (.ireturn, 1) := by decide +kernel
theorem dL_wordOf_0 : decode cL_wordOf 0 = .ok (.aload_n 2, 1) := by decide +kernel
theorem dL_wordOf_1 : decode cL_wordOf 1 = .ok (.iconst 0, 1) := by decide +kernel
theorem dL_wordOf_2 : decode cL_wordOf 2 = .ok (.aload_n 0, 1) := by decide +kernel
theorem dL_wordOf_3 : decode cL_wordOf 3 = .ok (.iload_n 1, 1) := by decide +kernel
theorem dL_wordOf_4 : decode cL_wordOf 4 = .ok (.invokevirtual 53, 3) := by decide +kernel
theorem dL_wordOf_7 : decode cL_wordOf 7 = .ok (.i2l, 1) := by decide +kernel
theorem dL_wordOf_8 : decode cL_wordOf 8 = .ok (.lastore, 1) := by decide +kernel
theorem dL_wordOf_9 : decode cL_wordOf 9 = .ok (.goto 6, 3) := by decide +kernel
theorem dL_wordOf_12 : decode cL_wordOf 12 = .ok (.astore_n 3, 1) := by decide +kernel
theorem dL_wordOf_13 : decode cL_wordOf 13 = .ok (.iconst 1, 1) := by decide +kernel
theorem dL_wordOf_14 : decode cL_wordOf 14 = .ok (.ireturn, 1) := by decide +kernel
theorem dL_wordOf_15 : decode cL_wordOf 15 = .ok (.iconst 0, 1) := by decide +kernel
theorem dL_wordOf_16 : decode cL_wordOf 16 = .ok (.ireturn, 1) := by decide +kernel
theorem dL_sungWith_0 : decode cL_sungWith 0 = .ok (.aload_n 2, 1) := by decide +kernel
theorem dL_sungWith_1 : decode cL_sungWith 1 = .ok (.iconst 0, 1) := by decide +kernel
theorem dL_sungWith_2 : decode cL_sungWith 2 = .ok (.aload_n 0, 1) := by decide +kernel
theorem dL_sungWith_3 : decode cL_sungWith 3 = .ok (.iload_n 1, 1) := by decide +kernel
theorem dL_sungWith_4 : decode cL_sungWith 4 = .ok (.invokevirtual 56, 3) := by decide +kernel
theorem dL_sungWith_7 : decode cL_sungWith 7 = .ok (.i2l, 1) := by decide +kernel
theorem dL_sungWith_8 : decode cL_sungWith 8 = .ok (.lastore, 1) := by decide +kernel
theorem dL_sungWith_9 : decode cL_sungWith 9 = .ok (.goto 6, 3) := by decide +kernel
theorem dL_sungWith_12 : decode cL_sungWith 12 = .ok (.astore_n 3, 1) := by decide +kernel
theorem dL_sungWith_13 : decode cL_sungWith 13 = .ok (.iconst 1, 1) := by decide +kernel
theorem dL_sungWith_14 : decode cL_sungWith 14 = .ok (.ireturn, 1) := by decide +kernel
theorem dL_sungWith_15 : decode cL_sungWith 15 = .ok (.iconst 0, 1) := by decide +kernel
theorem dL_sungWith_16 : decode cL_sungWith 16 = .ok (.ireturn, 1) := by decide +kernel
theorem dL_readings_0 : decode cL_readings 0 = .ok (.aload_n 2, 1) := by decide +kernel
theorem dL_readings_1 : decode cL_readings 1 = .ok (.iconst 0, 1) := by decide +kernel
theorem dL_readings_2 : decode cL_readings 2 = .ok (.aload_n 0, 1) := by decide +kernel
theorem dL_readings_3 : decode cL_readings 3 = .ok (.iload_n 1, 1) := by decide +kernel
theorem dL_readings_4 : decode cL_readings 4 = .ok (.invokevirtual 59, 3) := by decide +kernel
theorem dL_readings_7 : decode cL_readings 7 = .ok (.i2l, 1) := by decide +kernel
theorem dL_readings_8 : decode cL_readings 8 = .ok (.lastore, 1) := by decide +kernel
theorem dL_readings_9 : decode cL_readings 9 = .ok (.goto 6, 3) := by decide +kernel
theorem dL_readings_12 : decode cL_readings 12 = .ok (.astore_n 3, 1) := by decide +kernel
theorem dL_readings_13 : decode cL_readings 13 = .ok (.iconst 1, 1) := by decide +kernel
theorem dL_readings_14 : decode cL_readings 14 = .ok (.ireturn, 1) := by decide +kernel
theorem dL_readings_15 : decode cL_readings 15 = .ok (.iconst 0, 1) := by decide +kernel
theorem dL_readings_16 : decode cL_readings 16 = .ok (.ireturn, 1) := by decide +kernel
theorem dL_rightReading_0 : decode cL_rightReading 0 = .ok (.aload_n 2, 1) := by decide +kernel
theorem dL_rightReading_1 : decode cL_rightReading 1 = .ok (.iconst 0, 1) := by decide +kernel
theorem dL_rightReading_2 : decode cL_rightReading 2 = .ok (.aload_n 0, 1) := by decide +kernel
theorem dL_rightReading_3 : decode cL_rightReading 3 = .ok (.iload_n 1, 1) := by decide +kernel
theorem dL_rightReading_4 : decode cL_rightReading 4 = .ok (.invokevirtual 62, 3) := by decide +kernel
theorem dL_rightReading_7 : decode cL_rightReading 7 = .ok (.i2l, 1) := by decide +kernel
theorem dL_rightReading_8 : decode cL_rightReading 8 = .ok (.lastore, 1) := by decide +kernel
theorem dL_rightReading_9 : decode cL_rightReading 9 = .ok (.goto 6, 3) := by decide +kernel
theorem dL_rightReading_12 : decode cL_rightReading 12 = .ok (.astore_n 3, 1) := by decide +kernel
theorem dL_rightReading_13 : decode cL_rightReading 13 = .ok (.iconst 1, 1) := by decide +kernel
theorem dL_rightReading_14 : decode cL_rightReading 14 = .ok (.ireturn, 1) := by decide +kernel
theorem dL_rightReading_15 : decode cL_rightReading 15 = .ok (.iconst 0, 1) := by decide +kernel
theorem dL_rightReading_16 : decode cL_rightReading 16 = .ok (.ireturn, 1) := by decide +kernel
theorem dL_isAmbiguous_0 : decode cL_isAmbiguous 0 = .ok (.aload_n 2, 1) := by decide +kernel
theorem dL_isAmbiguous_1 : decode cL_isAmbiguous 1 = .ok (.iconst 0, 1) := by decide +kernel
theorem dL_isAmbiguous_2 : decode cL_isAmbiguous 2 = .ok (.aload_n 0, 1) := by decide +kernel
theorem dL_isAmbiguous_3 : decode cL_isAmbiguous 3 = .ok (.iload_n 1, 1) := by decide +kernel
theorem dL_isAmbiguous_4 : decode cL_isAmbiguous 4 = .ok (.invokevirtual 65, 3) := by decide +kernel
theorem dL_isAmbiguous_7 : decode cL_isAmbiguous 7 = .ok (.ifCond .eq 7, 3) := by decide +kernel
theorem dL_isAmbiguous_10 : decode cL_isAmbiguous 10 = .ok (.lconst 1, 1) := by decide +kernel
theorem dL_isAmbiguous_11 : decode cL_isAmbiguous 11 = .ok (.goto 4, 3) := by decide +kernel
theorem dL_isAmbiguous_14 : decode cL_isAmbiguous 14 = .ok (.lconst 0, 1) := by decide +kernel
theorem dL_isAmbiguous_15 : decode cL_isAmbiguous 15 = .ok (.lastore, 1) := by decide +kernel
theorem dL_isAmbiguous_16 : decode cL_isAmbiguous 16 = .ok (.goto 6, 3) := by decide +kernel
theorem dL_isAmbiguous_19 : decode cL_isAmbiguous 19 = .ok (.astore_n 3, 1) := by decide +kernel
theorem dL_isAmbiguous_20 : decode cL_isAmbiguous 20 = .ok (.iconst 1, 1) := by decide +kernel
theorem dL_isAmbiguous_21 : decode cL_isAmbiguous 21 = .ok (.ireturn, 1) := by decide +kernel
theorem dL_isAmbiguous_22 : decode cL_isAmbiguous 22 = .ok (.iconst 0, 1) := by decide +kernel
theorem dL_isAmbiguous_23 : decode cL_isAmbiguous 23 = .ok (.ireturn, 1) := by decide +kernel
theorem dL_isMended_0 : decode cL_isMended 0 = .ok (.aload_n 2, 1) := by decide +kernel
theorem dL_isMended_1 : decode cL_isMended 1 = .ok (.iconst 0, 1) := by decide +kernel
theorem dL_isMended_2 : decode cL_isMended 2 = .ok (.aload_n 0, 1) := by decide +kernel
theorem dL_isMended_3 : decode cL_isMended 3 = .ok (.iload_n 1, 1) := by decide +kernel
theorem dL_isMended_4 : decode cL_isMended 4 = .ok (.invokevirtual 68, 3) := by decide +kernel
theorem dL_isMended_7 : decode cL_isMended 7 = .ok (.ifCond .eq 7, 3) := by decide +kernel
theorem dL_isMended_10 : decode cL_isMended 10 = .ok (.lconst 1, 1) := by decide +kernel
theorem dL_isMended_11 : decode cL_isMended 11 = .ok (.goto 4, 3) := by decide +kernel
theorem dL_isMended_14 : decode cL_isMended 14 = .ok (.lconst 0, 1) := by decide +kernel
theorem dL_isMended_15 : decode cL_isMended 15 = .ok (.lastore, 1) := by decide +kernel
theorem dL_isMended_16 : decode cL_isMended 16 = .ok (.goto 6, 3) := by decide +kernel
theorem dL_isMended_19 : decode cL_isMended 19 = .ok (.astore_n 3, 1) := by decide +kernel
theorem dL_isMended_20 : decode cL_isMended 20 = .ok (.iconst 1, 1) := by decide +kernel
theorem dL_isMended_21 : decode cL_isMended 21 = .ok (.ireturn, 1) := by decide +kernel
theorem dL_isMended_22 : decode cL_isMended 22 = .ok (.iconst 0, 1) := by decide +kernel
theorem dL_isMended_23 : decode cL_isMended 23 = .ok (.ireturn, 1) := by decide +kernel
theorem dL_mend_0 : decode cL_mend 0 = .ok (.aload_n 2, 1) := by decide +kernel
theorem dL_mend_1 : decode cL_mend 1 = .ok (.iconst 0, 1) := by decide +kernel
theorem dL_mend_2 : decode cL_mend 2 = .ok (.aload_n 0, 1) := by decide +kernel
theorem dL_mend_3 : decode cL_mend 3 = .ok (.iload_n 1, 1) := by decide +kernel
theorem dL_mend_4 : decode cL_mend 4 = .ok (.invokevirtual 71, 3) := by decide +kernel
theorem dL_mend_7 : decode cL_mend 7 = .ok (.i2l, 1) := by decide +kernel
theorem dL_mend_8 : decode cL_mend 8 = .ok (.lastore, 1) := by decide +kernel
theorem dL_mend_9 : decode cL_mend 9 = .ok (.goto 9, 3) := by decide +kernel
theorem dL_mend_12 : decode cL_mend 12 = .ok (.astore_n 3, 1) := by decide +kernel
theorem dL_mend_13 : decode cL_mend 13 = .ok (.iconst 1, 1) := by decide +kernel
theorem dL_mend_14 : decode cL_mend 14 = .ok (.ireturn, 1) := by decide +kernel
theorem dL_mend_15 : decode cL_mend 15 = .ok (.astore_n 3, 1) := by decide +kernel
theorem dL_mend_16 : decode cL_mend 16 = .ok (.iconst 2, 1) := by decide +kernel
theorem dL_mend_17 : decode cL_mend 17 = .ok (.ireturn, 1) := by decide +kernel
theorem dL_mend_18 : decode cL_mend 18 = .ok (.iconst 0, 1) := by decide +kernel
theorem dL_mend_19 : decode cL_mend 19 = .ok (.ireturn, 1) := by decide +kernel
theorem dL_mendTo_0 : decode cL_mendTo 0 = .ok (.aload_n 2, 1) := by decide +kernel
theorem dL_mendTo_1 : decode cL_mendTo 1 = .ok (.iconst 0, 1) := by decide +kernel
theorem dL_mendTo_2 : decode cL_mendTo 2 = .ok (.aload_n 0, 1) := by decide +kernel
theorem dL_mendTo_3 : decode cL_mendTo 3 = .ok (.iload_n 1, 1) := by decide +kernel
theorem dL_mendTo_4 : decode cL_mendTo 4 = .ok (.invokevirtual 74, 3) := by decide +kernel
theorem dL_mendTo_7 : decode cL_mendTo 7 = .ok (.i2l, 1) := by decide +kernel
theorem dL_mendTo_8 : decode cL_mendTo 8 = .ok (.lastore, 1) := by decide +kernel
theorem dL_mendTo_9 : decode cL_mendTo 9 = .ok (.goto 6, 3) := by decide +kernel
theorem dL_mendTo_12 : decode cL_mendTo 12 = .ok (.astore_n 3, 1) := by decide +kernel
theorem dL_mendTo_13 : decode cL_mendTo 13 = .ok (.iconst 1, 1) := by decide +kernel
theorem dL_mendTo_14 : decode cL_mendTo 14 = .ok (.ireturn, 1) := by decide +kernel
theorem dL_mendTo_15 : decode cL_mendTo 15 = .ok (.iconst 0, 1) := by decide +kernel
theorem dL_mendTo_16 : decode cL_mendTo 16 = .ok (.ireturn, 1) := by decide +kernel
theorem dL_ambiguousWith_0 : decode cL_ambiguousWith 0 = .ok (.aload_n 3, 1) := by decide +kernel
theorem dL_ambiguousWith_1 : decode cL_ambiguousWith 1 = .ok (.iconst 0, 1) := by decide +kernel
theorem dL_ambiguousWith_2 : decode cL_ambiguousWith 2 = .ok (.aload_n 0, 1) := by decide +kernel
theorem dL_ambiguousWith_3 : decode cL_ambiguousWith 3 = .ok (.iload_n 1, 1) := by decide +kernel
theorem dL_ambiguousWith_4 : decode cL_ambiguousWith 4 = .ok (.iload_n 2, 1) := by decide +kernel
theorem dL_ambiguousWith_5 : decode cL_ambiguousWith 5 = .ok (.invokevirtual 77, 3) := by decide +kernel
theorem dL_ambiguousWith_8 : decode cL_ambiguousWith 8 = .ok (.i2l, 1) := by decide +kernel
theorem dL_ambiguousWith_9 : decode cL_ambiguousWith 9 = .ok (.lastore, 1) := by decide +kernel
theorem dL_ambiguousWith_10 : decode cL_ambiguousWith 10 = .ok (.goto 7, 3) := by decide +kernel
theorem dL_ambiguousWith_13 : decode cL_ambiguousWith 13 = .ok (.astore 4, 2) := by decide +kernel
theorem dL_ambiguousWith_15 : decode cL_ambiguousWith 15 = .ok (.iconst 1, 1) := by decide +kernel
theorem dL_ambiguousWith_16 : decode cL_ambiguousWith 16 = .ok (.ireturn, 1) := by decide +kernel
theorem dL_ambiguousWith_17 : decode cL_ambiguousWith 17 = .ok (.iconst 0, 1) := by decide +kernel
theorem dL_ambiguousWith_18 : decode cL_ambiguousWith 18 = .ok (.ireturn, 1) := by decide +kernel
theorem dL_bestWord_0 : decode cL_bestWord 0 = .ok (.aload_n 2, 1) := by decide +kernel
theorem dL_bestWord_1 : decode cL_bestWord 1 = .ok (.iconst 0, 1) := by decide +kernel
theorem dL_bestWord_2 : decode cL_bestWord 2 = .ok (.aload_n 0, 1) := by decide +kernel
theorem dL_bestWord_3 : decode cL_bestWord 3 = .ok (.iload_n 1, 1) := by decide +kernel
theorem dL_bestWord_4 : decode cL_bestWord 4 = .ok (.invokevirtual 80, 3) := by decide +kernel
theorem dL_bestWord_7 : decode cL_bestWord 7 = .ok (.i2l, 1) := by decide +kernel
theorem dL_bestWord_8 : decode cL_bestWord 8 = .ok (.lastore, 1) := by decide +kernel
theorem dL_bestWord_9 : decode cL_bestWord 9 = .ok (.goto 6, 3) := by decide +kernel
theorem dL_bestWord_12 : decode cL_bestWord 12 = .ok (.astore_n 3, 1) := by decide +kernel
theorem dL_bestWord_13 : decode cL_bestWord 13 = .ok (.iconst 1, 1) := by decide +kernel
theorem dL_bestWord_14 : decode cL_bestWord 14 = .ok (.ireturn, 1) := by decide +kernel
theorem dL_bestWord_15 : decode cL_bestWord 15 = .ok (.iconst 0, 1) := by decide +kernel
theorem dL_bestWord_16 : decode cL_bestWord 16 = .ok (.ireturn, 1) := by decide +kernel
theorem dL_law_0 : decode cL_law 0 = .ok (.new 8, 3) := by decide +kernel
theorem dL_law_3 : decode cL_law 3 = .ok (.dup, 1) := by decide +kernel
theorem dL_law_4 : decode cL_law 4 = .ok (.invokespecial 83, 3) := by decide +kernel
theorem dL_law_7 : decode cL_law 7 = .ok (.astore_n 1, 1) := by decide +kernel
theorem dL_law_8 : decode cL_law 8 = .ok (.new 84, 3) := by decide +kernel
theorem dL_law_11 : decode cL_law 11 = .ok (.dup, 1) := by decide +kernel
theorem dL_law_12 : decode cL_law 12 = .ok (.invokespecial 86, 3) := by decide +kernel
theorem dL_law_15 : decode cL_law 15 = .ok (.astore_n 2, 1) := by decide +kernel
theorem dL_law_16 : decode cL_law 16 = .ok (.iconst 1, 1) := by decide +kernel
theorem dL_law_17 : decode cL_law 17 = .ok (.newarray .long, 2) := by decide +kernel
theorem dL_law_19 : decode cL_law 19 = .ok (.astore_n 3, 1) := by decide +kernel
theorem dL_law_20 : decode cL_law 20 = .ok (.iconst 0, 1) := by decide +kernel
theorem dL_law_21 : decode cL_law 21 = .ok (.istore 4, 2) := by decide +kernel
theorem dL_law_23 : decode cL_law 23 = .ok (.iload 4, 2) := by decide +kernel
theorem dL_law_25 : decode cL_law 25 = .ok (.aload_n 0, 1) := by decide +kernel
theorem dL_law_26 : decode cL_law 26 = .ok (.arraylength, 1) := by decide +kernel
theorem dL_law_27 : decode cL_law 27 = .ok (.iconst 4, 1) := by decide +kernel
theorem dL_law_28 : decode cL_law 28 = .ok (.isub, 1) := by decide +kernel
theorem dL_law_29 : decode cL_law 29 = .ok (.if_icmp .gt 1643, 3) := by decide +kernel
theorem dL_law_32 : decode cL_law 32 = .ok (.aload_n 0, 1) := by decide +kernel
theorem dL_law_33 : decode cL_law 33 = .ok (.iload 4, 2) := by decide +kernel
theorem dL_law_35 : decode cL_law 35 = .ok (.iaload, 1) := by decide +kernel
theorem dL_law_36 : decode cL_law 36 = .ok (.bipush 63, 2) := by decide +kernel
theorem dL_law_38 : decode cL_law 38 = .ok (.iand, 1) := by decide +kernel
theorem dL_law_39 : decode cL_law 39 = .ok (.tableswitch 1627 0 35 #[157, 237, 281, 349, 417, 473, 486, 499, 512, 525, 538, 551, 607, 663, 719, 775, 838, 894, 950, 963, 976, 989, 1045, 1101, 1157, 1220, 1283, 1339, 1395, 1408, 1422, 1435, 1503, 1559, 1572, 1613], 157) := by decide +kernel
theorem dL_law_196 : decode cL_law 196 = .ok (.aload_n 1, 1) := by decide +kernel
theorem dL_law_197 : decode cL_law 197 = .ok (.aload_n 0, 1) := by decide +kernel
theorem dL_law_198 : decode cL_law 198 = .ok (.iload 4, 2) := by decide +kernel
theorem dL_law_200 : decode cL_law 200 = .ok (.iconst 1, 1) := by decide +kernel
theorem dL_law_201 : decode cL_law 201 = .ok (.iadd, 1) := by decide +kernel
theorem dL_law_202 : decode cL_law 202 = .ok (.iaload, 1) := by decide +kernel
theorem dL_law_203 : decode cL_law 203 = .ok (.aload_n 0, 1) := by decide +kernel
theorem dL_law_204 : decode cL_law 204 = .ok (.iload 4, 2) := by decide +kernel
theorem dL_law_206 : decode cL_law 206 = .ok (.iconst 2, 1) := by decide +kernel
theorem dL_law_207 : decode cL_law 207 = .ok (.iadd, 1) := by decide +kernel
theorem dL_law_208 : decode cL_law 208 = .ok (.iaload, 1) := by decide +kernel
theorem dL_law_209 : decode cL_law 209 = .ok (.aload_n 0, 1) := by decide +kernel
theorem dL_law_210 : decode cL_law 210 = .ok (.iload 4, 2) := by decide +kernel
theorem dL_law_212 : decode cL_law 212 = .ok (.iconst 3, 1) := by decide +kernel
theorem dL_law_213 : decode cL_law 213 = .ok (.iadd, 1) := by decide +kernel
theorem dL_law_214 : decode cL_law 214 = .ok (.iaload, 1) := by decide +kernel
theorem dL_law_215 : decode cL_law 215 = .ok (.aload_n 3, 1) := by decide +kernel
theorem dL_law_216 : decode cL_law 216 = .ok (.invokestatic 87, 3) := by decide +kernel
theorem dL_law_219 : decode cL_law 219 = .ok (.istore 5, 2) := by decide +kernel
theorem dL_law_221 : decode cL_law 221 = .ok (.aload_n 2, 1) := by decide +kernel
theorem dL_law_222 : decode cL_law 222 = .ok (.aload_n 0, 1) := by decide +kernel
theorem dL_law_223 : decode cL_law 223 = .ok (.iload 4, 2) := by decide +kernel
theorem dL_law_225 : decode cL_law 225 = .ok (.iconst 1, 1) := by decide +kernel
theorem dL_law_226 : decode cL_law 226 = .ok (.iadd, 1) := by decide +kernel
theorem dL_law_227 : decode cL_law 227 = .ok (.iaload, 1) := by decide +kernel
theorem dL_law_228 : decode cL_law 228 = .ok (.aload_n 0, 1) := by decide +kernel
theorem dL_law_229 : decode cL_law 229 = .ok (.iload 4, 2) := by decide +kernel
theorem dL_law_231 : decode cL_law 231 = .ok (.iconst 2, 1) := by decide +kernel
theorem dL_law_232 : decode cL_law 232 = .ok (.iadd, 1) := by decide +kernel
theorem dL_law_233 : decode cL_law 233 = .ok (.iaload, 1) := by decide +kernel
theorem dL_law_234 : decode cL_law 234 = .ok (.aload_n 0, 1) := by decide +kernel
theorem dL_law_235 : decode cL_law 235 = .ok (.iload 4, 2) := by decide +kernel
theorem dL_law_237 : decode cL_law 237 = .ok (.iconst 3, 1) := by decide +kernel
theorem dL_law_238 : decode cL_law 238 = .ok (.iadd, 1) := by decide +kernel
theorem dL_law_239 : decode cL_law 239 = .ok (.iaload, 1) := by decide +kernel
theorem dL_law_240 : decode cL_law 240 = .ok (.invokevirtual 92, 3) := by decide +kernel
theorem dL_law_243 : decode cL_law 243 = .ok (.istore 6, 2) := by decide +kernel
theorem dL_law_245 : decode cL_law 245 = .ok (.aload_n 2, 1) := by decide +kernel
theorem dL_law_246 : decode cL_law 246 = .ok (.invokevirtual 93, 3) := by decide +kernel
theorem dL_law_249 : decode cL_law 249 = .ok (.iload 5, 2) := by decide +kernel
theorem dL_law_251 : decode cL_law 251 = .ok (.if_icmp .eq 5, 3) := by decide +kernel
theorem dL_law_254 : decode cL_law 254 = .ok (.iconst 0, 1) := by decide +kernel
theorem dL_law_255 : decode cL_law 255 = .ok (.ireturn, 1) := by decide +kernel
theorem dL_law_256 : decode cL_law 256 = .ok (.iload 5, 2) := by decide +kernel
theorem dL_law_258 : decode cL_law 258 = .ok (.ifCond .ne 15, 3) := by decide +kernel
theorem dL_law_261 : decode cL_law 261 = .ok (.aload_n 3, 1) := by decide +kernel
theorem dL_law_262 : decode cL_law 262 = .ok (.iconst 0, 1) := by decide +kernel
theorem dL_law_263 : decode cL_law 263 = .ok (.laload, 1) := by decide +kernel
theorem dL_law_264 : decode cL_law 264 = .ok (.iload 6, 2) := by decide +kernel
theorem dL_law_266 : decode cL_law 266 = .ok (.i2l, 1) := by decide +kernel
theorem dL_law_267 : decode cL_law 267 = .ok (.lcmp, 1) := by decide +kernel
theorem dL_law_268 : decode cL_law 268 = .ok (.ifCond .eq 5, 3) := by decide +kernel
theorem dL_law_271 : decode cL_law 271 = .ok (.iconst 0, 1) := by decide +kernel
theorem dL_law_272 : decode cL_law 272 = .ok (.ireturn, 1) := by decide +kernel
theorem dL_law_273 : decode cL_law 273 = .ok (.goto 1393, 3) := by decide +kernel
theorem dL_law_276 : decode cL_law 276 = .ok (.aload_n 1, 1) := by decide +kernel
theorem dL_law_277 : decode cL_law 277 = .ok (.aload_n 3, 1) := by decide +kernel
theorem dL_law_278 : decode cL_law 278 = .ok (.invokestatic 96, 3) := by decide +kernel
theorem dL_law_281 : decode cL_law 281 = .ok (.istore 5, 2) := by decide +kernel
theorem dL_law_283 : decode cL_law 283 = .ok (.aload_n 2, 1) := by decide +kernel
theorem dL_law_284 : decode cL_law 284 = .ok (.invokevirtual 99, 3) := by decide +kernel
theorem dL_law_287 : decode cL_law 287 = .ok (.istore 6, 2) := by decide +kernel
theorem dL_law_289 : decode cL_law 289 = .ok (.aload_n 2, 1) := by decide +kernel
theorem dL_law_290 : decode cL_law 290 = .ok (.invokevirtual 93, 3) := by decide +kernel
theorem dL_law_293 : decode cL_law 293 = .ok (.iload 5, 2) := by decide +kernel
theorem dL_law_295 : decode cL_law 295 = .ok (.if_icmp .eq 5, 3) := by decide +kernel
theorem dL_law_298 : decode cL_law 298 = .ok (.iconst 0, 1) := by decide +kernel
theorem dL_law_299 : decode cL_law 299 = .ok (.ireturn, 1) := by decide +kernel
theorem dL_law_300 : decode cL_law 300 = .ok (.iload 5, 2) := by decide +kernel
theorem dL_law_302 : decode cL_law 302 = .ok (.ifCond .ne 15, 3) := by decide +kernel
theorem dL_law_305 : decode cL_law 305 = .ok (.aload_n 3, 1) := by decide +kernel
theorem dL_law_306 : decode cL_law 306 = .ok (.iconst 0, 1) := by decide +kernel
theorem dL_law_307 : decode cL_law 307 = .ok (.laload, 1) := by decide +kernel
theorem dL_law_308 : decode cL_law 308 = .ok (.iload 6, 2) := by decide +kernel
theorem dL_law_310 : decode cL_law 310 = .ok (.i2l, 1) := by decide +kernel
theorem dL_law_311 : decode cL_law 311 = .ok (.lcmp, 1) := by decide +kernel
theorem dL_law_312 : decode cL_law 312 = .ok (.ifCond .eq 5, 3) := by decide +kernel
theorem dL_law_315 : decode cL_law 315 = .ok (.iconst 0, 1) := by decide +kernel
theorem dL_law_316 : decode cL_law 316 = .ok (.ireturn, 1) := by decide +kernel
theorem dL_law_317 : decode cL_law 317 = .ok (.goto 1349, 3) := by decide +kernel
theorem dL_law_320 : decode cL_law 320 = .ok (.aload_n 1, 1) := by decide +kernel
theorem dL_law_321 : decode cL_law 321 = .ok (.aload_n 0, 1) := by decide +kernel
theorem dL_law_322 : decode cL_law 322 = .ok (.iload 4, 2) := by decide +kernel
theorem dL_law_324 : decode cL_law 324 = .ok (.iconst 1, 1) := by decide +kernel
theorem dL_law_325 : decode cL_law 325 = .ok (.iadd, 1) := by decide +kernel
theorem dL_law_326 : decode cL_law 326 = .ok (.iaload, 1) := by decide +kernel
theorem dL_law_327 : decode cL_law 327 = .ok (.aload_n 0, 1) := by decide +kernel
theorem dL_law_328 : decode cL_law 328 = .ok (.iload 4, 2) := by decide +kernel
theorem dL_law_330 : decode cL_law 330 = .ok (.iconst 2, 1) := by decide +kernel
theorem dL_law_331 : decode cL_law 331 = .ok (.iadd, 1) := by decide +kernel
theorem dL_law_332 : decode cL_law 332 = .ok (.iaload, 1) := by decide +kernel
theorem dL_law_333 : decode cL_law 333 = .ok (.aload_n 3, 1) := by decide +kernel
theorem dL_law_334 : decode cL_law 334 = .ok (.invokestatic 100, 3) := by decide +kernel
theorem dL_law_337 : decode cL_law 337 = .ok (.istore 5, 2) := by decide +kernel
theorem dL_law_339 : decode cL_law 339 = .ok (.aload_n 2, 1) := by decide +kernel
theorem dL_law_340 : decode cL_law 340 = .ok (.aload_n 0, 1) := by decide +kernel
theorem dL_law_341 : decode cL_law 341 = .ok (.iload 4, 2) := by decide +kernel
theorem dL_law_343 : decode cL_law 343 = .ok (.iconst 1, 1) := by decide +kernel
theorem dL_law_344 : decode cL_law 344 = .ok (.iadd, 1) := by decide +kernel
theorem dL_law_345 : decode cL_law 345 = .ok (.iaload, 1) := by decide +kernel
theorem dL_law_346 : decode cL_law 346 = .ok (.aload_n 0, 1) := by decide +kernel
theorem dL_law_347 : decode cL_law 347 = .ok (.iload 4, 2) := by decide +kernel
theorem dL_law_349 : decode cL_law 349 = .ok (.iconst 2, 1) := by decide +kernel
theorem dL_law_350 : decode cL_law 350 = .ok (.iadd, 1) := by decide +kernel
theorem dL_law_351 : decode cL_law 351 = .ok (.iaload, 1) := by decide +kernel
theorem dL_law_352 : decode cL_law 352 = .ok (.invokevirtual 103, 3) := by decide +kernel
theorem dL_law_355 : decode cL_law 355 = .ok (.istore 6, 2) := by decide +kernel
theorem dL_law_357 : decode cL_law 357 = .ok (.aload_n 2, 1) := by decide +kernel
theorem dL_law_358 : decode cL_law 358 = .ok (.invokevirtual 93, 3) := by decide +kernel
theorem dL_law_361 : decode cL_law 361 = .ok (.iload 5, 2) := by decide +kernel
theorem dL_law_363 : decode cL_law 363 = .ok (.if_icmp .eq 5, 3) := by decide +kernel
theorem dL_law_366 : decode cL_law 366 = .ok (.iconst 0, 1) := by decide +kernel
theorem dL_law_367 : decode cL_law 367 = .ok (.ireturn, 1) := by decide +kernel
theorem dL_law_368 : decode cL_law 368 = .ok (.iload 5, 2) := by decide +kernel
theorem dL_law_370 : decode cL_law 370 = .ok (.ifCond .ne 15, 3) := by decide +kernel
theorem dL_law_373 : decode cL_law 373 = .ok (.aload_n 3, 1) := by decide +kernel
theorem dL_law_374 : decode cL_law 374 = .ok (.iconst 0, 1) := by decide +kernel
theorem dL_law_375 : decode cL_law 375 = .ok (.laload, 1) := by decide +kernel
theorem dL_law_376 : decode cL_law 376 = .ok (.iload 6, 2) := by decide +kernel
theorem dL_law_378 : decode cL_law 378 = .ok (.i2l, 1) := by decide +kernel
theorem dL_law_379 : decode cL_law 379 = .ok (.lcmp, 1) := by decide +kernel
theorem dL_law_380 : decode cL_law 380 = .ok (.ifCond .eq 5, 3) := by decide +kernel
theorem dL_law_383 : decode cL_law 383 = .ok (.iconst 0, 1) := by decide +kernel
theorem dL_law_384 : decode cL_law 384 = .ok (.ireturn, 1) := by decide +kernel
theorem dL_law_385 : decode cL_law 385 = .ok (.goto 1281, 3) := by decide +kernel
theorem dL_law_388 : decode cL_law 388 = .ok (.aload_n 1, 1) := by decide +kernel
theorem dL_law_389 : decode cL_law 389 = .ok (.aload_n 0, 1) := by decide +kernel
theorem dL_law_390 : decode cL_law 390 = .ok (.iload 4, 2) := by decide +kernel
theorem dL_law_392 : decode cL_law 392 = .ok (.iconst 1, 1) := by decide +kernel
theorem dL_law_393 : decode cL_law 393 = .ok (.iadd, 1) := by decide +kernel
theorem dL_law_394 : decode cL_law 394 = .ok (.iaload, 1) := by decide +kernel
theorem dL_law_395 : decode cL_law 395 = .ok (.aload_n 0, 1) := by decide +kernel
theorem dL_law_396 : decode cL_law 396 = .ok (.iload 4, 2) := by decide +kernel
theorem dL_law_398 : decode cL_law 398 = .ok (.iconst 2, 1) := by decide +kernel
theorem dL_law_399 : decode cL_law 399 = .ok (.iadd, 1) := by decide +kernel
theorem dL_law_400 : decode cL_law 400 = .ok (.iaload, 1) := by decide +kernel
theorem dL_law_401 : decode cL_law 401 = .ok (.aload_n 3, 1) := by decide +kernel
theorem dL_law_402 : decode cL_law 402 = .ok (.invokestatic 104, 3) := by decide +kernel
theorem dL_law_405 : decode cL_law 405 = .ok (.istore 5, 2) := by decide +kernel
theorem dL_law_407 : decode cL_law 407 = .ok (.aload_n 2, 1) := by decide +kernel
theorem dL_law_408 : decode cL_law 408 = .ok (.aload_n 0, 1) := by decide +kernel
theorem dL_law_409 : decode cL_law 409 = .ok (.iload 4, 2) := by decide +kernel
theorem dL_law_411 : decode cL_law 411 = .ok (.iconst 1, 1) := by decide +kernel
theorem dL_law_412 : decode cL_law 412 = .ok (.iadd, 1) := by decide +kernel
theorem dL_law_413 : decode cL_law 413 = .ok (.iaload, 1) := by decide +kernel
theorem dL_law_414 : decode cL_law 414 = .ok (.aload_n 0, 1) := by decide +kernel
theorem dL_law_415 : decode cL_law 415 = .ok (.iload 4, 2) := by decide +kernel
theorem dL_law_417 : decode cL_law 417 = .ok (.iconst 2, 1) := by decide +kernel
theorem dL_law_418 : decode cL_law 418 = .ok (.iadd, 1) := by decide +kernel
theorem dL_law_419 : decode cL_law 419 = .ok (.iaload, 1) := by decide +kernel
theorem dL_law_420 : decode cL_law 420 = .ok (.invokevirtual 106, 3) := by decide +kernel
theorem dL_law_423 : decode cL_law 423 = .ok (.istore 6, 2) := by decide +kernel
theorem dL_law_425 : decode cL_law 425 = .ok (.aload_n 2, 1) := by decide +kernel
theorem dL_law_426 : decode cL_law 426 = .ok (.invokevirtual 93, 3) := by decide +kernel
theorem dL_law_429 : decode cL_law 429 = .ok (.iload 5, 2) := by decide +kernel
theorem dL_law_431 : decode cL_law 431 = .ok (.if_icmp .eq 5, 3) := by decide +kernel
theorem dL_law_434 : decode cL_law 434 = .ok (.iconst 0, 1) := by decide +kernel
theorem dL_law_435 : decode cL_law 435 = .ok (.ireturn, 1) := by decide +kernel
theorem dL_law_436 : decode cL_law 436 = .ok (.iload 5, 2) := by decide +kernel
theorem dL_law_438 : decode cL_law 438 = .ok (.ifCond .ne 15, 3) := by decide +kernel
theorem dL_law_441 : decode cL_law 441 = .ok (.aload_n 3, 1) := by decide +kernel
theorem dL_law_442 : decode cL_law 442 = .ok (.iconst 0, 1) := by decide +kernel
theorem dL_law_443 : decode cL_law 443 = .ok (.laload, 1) := by decide +kernel
theorem dL_law_444 : decode cL_law 444 = .ok (.iload 6, 2) := by decide +kernel
theorem dL_law_446 : decode cL_law 446 = .ok (.i2l, 1) := by decide +kernel
theorem dL_law_447 : decode cL_law 447 = .ok (.lcmp, 1) := by decide +kernel
theorem dL_law_448 : decode cL_law 448 = .ok (.ifCond .eq 5, 3) := by decide +kernel
theorem dL_law_451 : decode cL_law 451 = .ok (.iconst 0, 1) := by decide +kernel
theorem dL_law_452 : decode cL_law 452 = .ok (.ireturn, 1) := by decide +kernel
theorem dL_law_453 : decode cL_law 453 = .ok (.goto 1213, 3) := by decide +kernel
theorem dL_law_456 : decode cL_law 456 = .ok (.aload_n 1, 1) := by decide +kernel
theorem dL_law_457 : decode cL_law 457 = .ok (.aload_n 0, 1) := by decide +kernel
theorem dL_law_458 : decode cL_law 458 = .ok (.iload 4, 2) := by decide +kernel
theorem dL_law_460 : decode cL_law 460 = .ok (.iconst 1, 1) := by decide +kernel
theorem dL_law_461 : decode cL_law 461 = .ok (.iadd, 1) := by decide +kernel
theorem dL_law_462 : decode cL_law 462 = .ok (.iaload, 1) := by decide +kernel
theorem dL_law_463 : decode cL_law 463 = .ok (.aload_n 3, 1) := by decide +kernel
theorem dL_law_464 : decode cL_law 464 = .ok (.invokestatic 107, 3) := by decide +kernel
theorem dL_law_467 : decode cL_law 467 = .ok (.istore 5, 2) := by decide +kernel
theorem dL_law_469 : decode cL_law 469 = .ok (.aload_n 2, 1) := by decide +kernel
theorem dL_law_470 : decode cL_law 470 = .ok (.aload_n 0, 1) := by decide +kernel
theorem dL_law_471 : decode cL_law 471 = .ok (.iload 4, 2) := by decide +kernel
theorem dL_law_473 : decode cL_law 473 = .ok (.iconst 1, 1) := by decide +kernel
theorem dL_law_474 : decode cL_law 474 = .ok (.iadd, 1) := by decide +kernel
theorem dL_law_475 : decode cL_law 475 = .ok (.iaload, 1) := by decide +kernel
theorem dL_law_476 : decode cL_law 476 = .ok (.invokevirtual 110, 3) := by decide +kernel
theorem dL_law_479 : decode cL_law 479 = .ok (.istore 6, 2) := by decide +kernel
theorem dL_law_481 : decode cL_law 481 = .ok (.aload_n 2, 1) := by decide +kernel
theorem dL_law_482 : decode cL_law 482 = .ok (.invokevirtual 93, 3) := by decide +kernel
theorem dL_law_485 : decode cL_law 485 = .ok (.iload 5, 2) := by decide +kernel
theorem dL_law_487 : decode cL_law 487 = .ok (.if_icmp .eq 5, 3) := by decide +kernel
theorem dL_law_490 : decode cL_law 490 = .ok (.iconst 0, 1) := by decide +kernel
theorem dL_law_491 : decode cL_law 491 = .ok (.ireturn, 1) := by decide +kernel
theorem dL_law_492 : decode cL_law 492 = .ok (.iload 5, 2) := by decide +kernel
theorem dL_law_494 : decode cL_law 494 = .ok (.ifCond .ne 15, 3) := by decide +kernel
theorem dL_law_497 : decode cL_law 497 = .ok (.aload_n 3, 1) := by decide +kernel
theorem dL_law_498 : decode cL_law 498 = .ok (.iconst 0, 1) := by decide +kernel
theorem dL_law_499 : decode cL_law 499 = .ok (.laload, 1) := by decide +kernel
theorem dL_law_500 : decode cL_law 500 = .ok (.iload 6, 2) := by decide +kernel
theorem dL_law_502 : decode cL_law 502 = .ok (.i2l, 1) := by decide +kernel
theorem dL_law_503 : decode cL_law 503 = .ok (.lcmp, 1) := by decide +kernel
theorem dL_law_504 : decode cL_law 504 = .ok (.ifCond .eq 5, 3) := by decide +kernel
theorem dL_law_507 : decode cL_law 507 = .ok (.iconst 0, 1) := by decide +kernel
theorem dL_law_508 : decode cL_law 508 = .ok (.ireturn, 1) := by decide +kernel
theorem dL_law_509 : decode cL_law 509 = .ok (.goto 1157, 3) := by decide +kernel
theorem dL_law_512 : decode cL_law 512 = .ok (.aload_n 1, 1) := by decide +kernel
theorem dL_law_513 : decode cL_law 513 = .ok (.invokevirtual 111, 3) := by decide +kernel
theorem dL_law_516 : decode cL_law 516 = .ok (.aload_n 2, 1) := by decide +kernel
theorem dL_law_517 : decode cL_law 517 = .ok (.invokevirtual 114, 3) := by decide +kernel
theorem dL_law_520 : decode cL_law 520 = .ok (.if_icmp .eq 1146, 3) := by decide +kernel
theorem dL_law_523 : decode cL_law 523 = .ok (.iconst 0, 1) := by decide +kernel
theorem dL_law_524 : decode cL_law 524 = .ok (.ireturn, 1) := by decide +kernel
theorem dL_law_525 : decode cL_law 525 = .ok (.aload_n 1, 1) := by decide +kernel
theorem dL_law_526 : decode cL_law 526 = .ok (.invokevirtual 115, 3) := by decide +kernel
theorem dL_law_529 : decode cL_law 529 = .ok (.aload_n 2, 1) := by decide +kernel
theorem dL_law_530 : decode cL_law 530 = .ok (.invokevirtual 118, 3) := by decide +kernel
theorem dL_law_533 : decode cL_law 533 = .ok (.if_icmp .eq 1133, 3) := by decide +kernel
theorem dL_law_536 : decode cL_law 536 = .ok (.iconst 0, 1) := by decide +kernel
theorem dL_law_537 : decode cL_law 537 = .ok (.ireturn, 1) := by decide +kernel
theorem dL_law_538 : decode cL_law 538 = .ok (.aload_n 1, 1) := by decide +kernel
theorem dL_law_539 : decode cL_law 539 = .ok (.invokevirtual 119, 3) := by decide +kernel
theorem dL_law_542 : decode cL_law 542 = .ok (.aload_n 2, 1) := by decide +kernel
theorem dL_law_543 : decode cL_law 543 = .ok (.invokevirtual 122, 3) := by decide +kernel
theorem dL_law_546 : decode cL_law 546 = .ok (.if_icmp .eq 1120, 3) := by decide +kernel
theorem dL_law_549 : decode cL_law 549 = .ok (.iconst 0, 1) := by decide +kernel
theorem dL_law_550 : decode cL_law 550 = .ok (.ireturn, 1) := by decide +kernel
theorem dL_law_551 : decode cL_law 551 = .ok (.aload_n 1, 1) := by decide +kernel
theorem dL_law_552 : decode cL_law 552 = .ok (.invokevirtual 123, 3) := by decide +kernel
theorem dL_law_555 : decode cL_law 555 = .ok (.aload_n 2, 1) := by decide +kernel
theorem dL_law_556 : decode cL_law 556 = .ok (.invokevirtual 126, 3) := by decide +kernel
theorem dL_law_559 : decode cL_law 559 = .ok (.if_icmp .eq 1107, 3) := by decide +kernel
theorem dL_law_562 : decode cL_law 562 = .ok (.iconst 0, 1) := by decide +kernel
theorem dL_law_563 : decode cL_law 563 = .ok (.ireturn, 1) := by decide +kernel
theorem dL_law_564 : decode cL_law 564 = .ok (.aload_n 1, 1) := by decide +kernel
theorem dL_law_565 : decode cL_law 565 = .ok (.invokevirtual 127, 3) := by decide +kernel
theorem dL_law_568 : decode cL_law 568 = .ok (.aload_n 2, 1) := by decide +kernel
theorem dL_law_569 : decode cL_law 569 = .ok (.invokevirtual 130, 3) := by decide +kernel
theorem dL_law_572 : decode cL_law 572 = .ok (.if_icmp .eq 1094, 3) := by decide +kernel
theorem dL_law_575 : decode cL_law 575 = .ok (.iconst 0, 1) := by decide +kernel
theorem dL_law_576 : decode cL_law 576 = .ok (.ireturn, 1) := by decide +kernel
theorem dL_law_577 : decode cL_law 577 = .ok (.aload_n 1, 1) := by decide +kernel
theorem dL_law_578 : decode cL_law 578 = .ok (.invokevirtual 131, 3) := by decide +kernel
theorem dL_law_581 : decode cL_law 581 = .ok (.aload_n 2, 1) := by decide +kernel
theorem dL_law_582 : decode cL_law 582 = .ok (.invokevirtual 134, 3) := by decide +kernel
theorem dL_law_585 : decode cL_law 585 = .ok (.if_icmp .eq 1081, 3) := by decide +kernel
theorem dL_law_588 : decode cL_law 588 = .ok (.iconst 0, 1) := by decide +kernel
theorem dL_law_589 : decode cL_law 589 = .ok (.ireturn, 1) := by decide +kernel
theorem dL_law_590 : decode cL_law 590 = .ok (.aload_n 1, 1) := by decide +kernel
theorem dL_law_591 : decode cL_law 591 = .ok (.aload_n 0, 1) := by decide +kernel
theorem dL_law_592 : decode cL_law 592 = .ok (.iload 4, 2) := by decide +kernel
theorem dL_law_594 : decode cL_law 594 = .ok (.iconst 1, 1) := by decide +kernel
theorem dL_law_595 : decode cL_law 595 = .ok (.iadd, 1) := by decide +kernel
theorem dL_law_596 : decode cL_law 596 = .ok (.iaload, 1) := by decide +kernel
theorem dL_law_597 : decode cL_law 597 = .ok (.aload_n 3, 1) := by decide +kernel
theorem dL_law_598 : decode cL_law 598 = .ok (.invokestatic 135, 3) := by decide +kernel
theorem dL_law_601 : decode cL_law 601 = .ok (.istore 5, 2) := by decide +kernel
theorem dL_law_603 : decode cL_law 603 = .ok (.aload_n 2, 1) := by decide +kernel
theorem dL_law_604 : decode cL_law 604 = .ok (.aload_n 0, 1) := by decide +kernel
theorem dL_law_605 : decode cL_law 605 = .ok (.iload 4, 2) := by decide +kernel
theorem dL_law_607 : decode cL_law 607 = .ok (.iconst 1, 1) := by decide +kernel
theorem dL_law_608 : decode cL_law 608 = .ok (.iadd, 1) := by decide +kernel
theorem dL_law_609 : decode cL_law 609 = .ok (.iaload, 1) := by decide +kernel
theorem dL_law_610 : decode cL_law 610 = .ok (.invokevirtual 137, 3) := by decide +kernel
theorem dL_law_613 : decode cL_law 613 = .ok (.istore 6, 2) := by decide +kernel
theorem dL_law_615 : decode cL_law 615 = .ok (.aload_n 2, 1) := by decide +kernel
theorem dL_law_616 : decode cL_law 616 = .ok (.invokevirtual 93, 3) := by decide +kernel
theorem dL_law_619 : decode cL_law 619 = .ok (.iload 5, 2) := by decide +kernel
theorem dL_law_621 : decode cL_law 621 = .ok (.if_icmp .eq 5, 3) := by decide +kernel
theorem dL_law_624 : decode cL_law 624 = .ok (.iconst 0, 1) := by decide +kernel
theorem dL_law_625 : decode cL_law 625 = .ok (.ireturn, 1) := by decide +kernel
theorem dL_law_626 : decode cL_law 626 = .ok (.iload 5, 2) := by decide +kernel
theorem dL_law_628 : decode cL_law 628 = .ok (.ifCond .ne 15, 3) := by decide +kernel
theorem dL_law_631 : decode cL_law 631 = .ok (.aload_n 3, 1) := by decide +kernel
theorem dL_law_632 : decode cL_law 632 = .ok (.iconst 0, 1) := by decide +kernel
theorem dL_law_633 : decode cL_law 633 = .ok (.laload, 1) := by decide +kernel
theorem dL_law_634 : decode cL_law 634 = .ok (.iload 6, 2) := by decide +kernel
theorem dL_law_636 : decode cL_law 636 = .ok (.i2l, 1) := by decide +kernel
theorem dL_law_637 : decode cL_law 637 = .ok (.lcmp, 1) := by decide +kernel
theorem dL_law_638 : decode cL_law 638 = .ok (.ifCond .eq 5, 3) := by decide +kernel
theorem dL_law_641 : decode cL_law 641 = .ok (.iconst 0, 1) := by decide +kernel
theorem dL_law_642 : decode cL_law 642 = .ok (.ireturn, 1) := by decide +kernel
theorem dL_law_643 : decode cL_law 643 = .ok (.goto 1023, 3) := by decide +kernel
theorem dL_law_646 : decode cL_law 646 = .ok (.aload_n 1, 1) := by decide +kernel
theorem dL_law_647 : decode cL_law 647 = .ok (.aload_n 0, 1) := by decide +kernel
theorem dL_law_648 : decode cL_law 648 = .ok (.iload 4, 2) := by decide +kernel
theorem dL_law_650 : decode cL_law 650 = .ok (.iconst 1, 1) := by decide +kernel
theorem dL_law_651 : decode cL_law 651 = .ok (.iadd, 1) := by decide +kernel
theorem dL_law_652 : decode cL_law 652 = .ok (.iaload, 1) := by decide +kernel
theorem dL_law_653 : decode cL_law 653 = .ok (.aload_n 3, 1) := by decide +kernel
theorem dL_law_654 : decode cL_law 654 = .ok (.invokestatic 138, 3) := by decide +kernel
theorem dL_law_657 : decode cL_law 657 = .ok (.istore 5, 2) := by decide +kernel
theorem dL_law_659 : decode cL_law 659 = .ok (.aload_n 2, 1) := by decide +kernel
theorem dL_law_660 : decode cL_law 660 = .ok (.aload_n 0, 1) := by decide +kernel
theorem dL_law_661 : decode cL_law 661 = .ok (.iload 4, 2) := by decide +kernel
theorem dL_law_663 : decode cL_law 663 = .ok (.iconst 1, 1) := by decide +kernel
theorem dL_law_664 : decode cL_law 664 = .ok (.iadd, 1) := by decide +kernel
theorem dL_law_665 : decode cL_law 665 = .ok (.iaload, 1) := by decide +kernel
theorem dL_law_666 : decode cL_law 666 = .ok (.invokevirtual 140, 3) := by decide +kernel
theorem dL_law_669 : decode cL_law 669 = .ok (.istore 6, 2) := by decide +kernel
theorem dL_law_671 : decode cL_law 671 = .ok (.aload_n 2, 1) := by decide +kernel
theorem dL_law_672 : decode cL_law 672 = .ok (.invokevirtual 93, 3) := by decide +kernel
theorem dL_law_675 : decode cL_law 675 = .ok (.iload 5, 2) := by decide +kernel
theorem dL_law_677 : decode cL_law 677 = .ok (.if_icmp .eq 5, 3) := by decide +kernel
theorem dL_law_680 : decode cL_law 680 = .ok (.iconst 0, 1) := by decide +kernel
theorem dL_law_681 : decode cL_law 681 = .ok (.ireturn, 1) := by decide +kernel
theorem dL_law_682 : decode cL_law 682 = .ok (.iload 5, 2) := by decide +kernel
theorem dL_law_684 : decode cL_law 684 = .ok (.ifCond .ne 15, 3) := by decide +kernel
theorem dL_law_687 : decode cL_law 687 = .ok (.aload_n 3, 1) := by decide +kernel
theorem dL_law_688 : decode cL_law 688 = .ok (.iconst 0, 1) := by decide +kernel
theorem dL_law_689 : decode cL_law 689 = .ok (.laload, 1) := by decide +kernel
theorem dL_law_690 : decode cL_law 690 = .ok (.iload 6, 2) := by decide +kernel
theorem dL_law_692 : decode cL_law 692 = .ok (.i2l, 1) := by decide +kernel
theorem dL_law_693 : decode cL_law 693 = .ok (.lcmp, 1) := by decide +kernel
theorem dL_law_694 : decode cL_law 694 = .ok (.ifCond .eq 5, 3) := by decide +kernel
theorem dL_law_697 : decode cL_law 697 = .ok (.iconst 0, 1) := by decide +kernel
theorem dL_law_698 : decode cL_law 698 = .ok (.ireturn, 1) := by decide +kernel
theorem dL_law_699 : decode cL_law 699 = .ok (.goto 967, 3) := by decide +kernel
theorem dL_law_702 : decode cL_law 702 = .ok (.aload_n 1, 1) := by decide +kernel
theorem dL_law_703 : decode cL_law 703 = .ok (.aload_n 0, 1) := by decide +kernel
theorem dL_law_704 : decode cL_law 704 = .ok (.iload 4, 2) := by decide +kernel
theorem dL_law_706 : decode cL_law 706 = .ok (.iconst 1, 1) := by decide +kernel
theorem dL_law_707 : decode cL_law 707 = .ok (.iadd, 1) := by decide +kernel
theorem dL_law_708 : decode cL_law 708 = .ok (.iaload, 1) := by decide +kernel
theorem dL_law_709 : decode cL_law 709 = .ok (.aload_n 3, 1) := by decide +kernel
theorem dL_law_710 : decode cL_law 710 = .ok (.invokestatic 141, 3) := by decide +kernel
theorem dL_law_713 : decode cL_law 713 = .ok (.istore 5, 2) := by decide +kernel
theorem dL_law_715 : decode cL_law 715 = .ok (.aload_n 2, 1) := by decide +kernel
theorem dL_law_716 : decode cL_law 716 = .ok (.aload_n 0, 1) := by decide +kernel
theorem dL_law_717 : decode cL_law 717 = .ok (.iload 4, 2) := by decide +kernel
theorem dL_law_719 : decode cL_law 719 = .ok (.iconst 1, 1) := by decide +kernel
theorem dL_law_720 : decode cL_law 720 = .ok (.iadd, 1) := by decide +kernel
theorem dL_law_721 : decode cL_law 721 = .ok (.iaload, 1) := by decide +kernel
theorem dL_law_722 : decode cL_law 722 = .ok (.invokevirtual 143, 3) := by decide +kernel
theorem dL_law_725 : decode cL_law 725 = .ok (.istore 6, 2) := by decide +kernel
theorem dL_law_727 : decode cL_law 727 = .ok (.aload_n 2, 1) := by decide +kernel
theorem dL_law_728 : decode cL_law 728 = .ok (.invokevirtual 93, 3) := by decide +kernel
theorem dL_law_731 : decode cL_law 731 = .ok (.iload 5, 2) := by decide +kernel
theorem dL_law_733 : decode cL_law 733 = .ok (.if_icmp .eq 5, 3) := by decide +kernel
theorem dL_law_736 : decode cL_law 736 = .ok (.iconst 0, 1) := by decide +kernel
theorem dL_law_737 : decode cL_law 737 = .ok (.ireturn, 1) := by decide +kernel
theorem dL_law_738 : decode cL_law 738 = .ok (.iload 5, 2) := by decide +kernel
theorem dL_law_740 : decode cL_law 740 = .ok (.ifCond .ne 15, 3) := by decide +kernel
theorem dL_law_743 : decode cL_law 743 = .ok (.aload_n 3, 1) := by decide +kernel
theorem dL_law_744 : decode cL_law 744 = .ok (.iconst 0, 1) := by decide +kernel
theorem dL_law_745 : decode cL_law 745 = .ok (.laload, 1) := by decide +kernel
theorem dL_law_746 : decode cL_law 746 = .ok (.iload 6, 2) := by decide +kernel
theorem dL_law_748 : decode cL_law 748 = .ok (.i2l, 1) := by decide +kernel
theorem dL_law_749 : decode cL_law 749 = .ok (.lcmp, 1) := by decide +kernel
theorem dL_law_750 : decode cL_law 750 = .ok (.ifCond .eq 5, 3) := by decide +kernel
theorem dL_law_753 : decode cL_law 753 = .ok (.iconst 0, 1) := by decide +kernel
theorem dL_law_754 : decode cL_law 754 = .ok (.ireturn, 1) := by decide +kernel
theorem dL_law_755 : decode cL_law 755 = .ok (.goto 911, 3) := by decide +kernel
theorem dL_law_758 : decode cL_law 758 = .ok (.aload_n 1, 1) := by decide +kernel
theorem dL_law_759 : decode cL_law 759 = .ok (.aload_n 0, 1) := by decide +kernel
theorem dL_law_760 : decode cL_law 760 = .ok (.iload 4, 2) := by decide +kernel
theorem dL_law_762 : decode cL_law 762 = .ok (.iconst 1, 1) := by decide +kernel
theorem dL_law_763 : decode cL_law 763 = .ok (.iadd, 1) := by decide +kernel
theorem dL_law_764 : decode cL_law 764 = .ok (.iaload, 1) := by decide +kernel
theorem dL_law_765 : decode cL_law 765 = .ok (.aload_n 3, 1) := by decide +kernel
theorem dL_law_766 : decode cL_law 766 = .ok (.invokestatic 144, 3) := by decide +kernel
theorem dL_law_769 : decode cL_law 769 = .ok (.istore 5, 2) := by decide +kernel
theorem dL_law_771 : decode cL_law 771 = .ok (.aload_n 2, 1) := by decide +kernel
theorem dL_law_772 : decode cL_law 772 = .ok (.aload_n 0, 1) := by decide +kernel
theorem dL_law_773 : decode cL_law 773 = .ok (.iload 4, 2) := by decide +kernel
theorem dL_law_775 : decode cL_law 775 = .ok (.iconst 1, 1) := by decide +kernel
theorem dL_law_776 : decode cL_law 776 = .ok (.iadd, 1) := by decide +kernel
theorem dL_law_777 : decode cL_law 777 = .ok (.iaload, 1) := by decide +kernel
theorem dL_law_778 : decode cL_law 778 = .ok (.invokevirtual 146, 3) := by decide +kernel
theorem dL_law_781 : decode cL_law 781 = .ok (.istore 6, 2) := by decide +kernel
theorem dL_law_783 : decode cL_law 783 = .ok (.aload_n 2, 1) := by decide +kernel
theorem dL_law_784 : decode cL_law 784 = .ok (.invokevirtual 93, 3) := by decide +kernel
theorem dL_law_787 : decode cL_law 787 = .ok (.iload 5, 2) := by decide +kernel
theorem dL_law_789 : decode cL_law 789 = .ok (.if_icmp .eq 5, 3) := by decide +kernel
theorem dL_law_792 : decode cL_law 792 = .ok (.iconst 0, 1) := by decide +kernel
theorem dL_law_793 : decode cL_law 793 = .ok (.ireturn, 1) := by decide +kernel
theorem dL_law_794 : decode cL_law 794 = .ok (.iload 5, 2) := by decide +kernel
theorem dL_law_796 : decode cL_law 796 = .ok (.ifCond .ne 15, 3) := by decide +kernel
theorem dL_law_799 : decode cL_law 799 = .ok (.aload_n 3, 1) := by decide +kernel
theorem dL_law_800 : decode cL_law 800 = .ok (.iconst 0, 1) := by decide +kernel
theorem dL_law_801 : decode cL_law 801 = .ok (.laload, 1) := by decide +kernel
theorem dL_law_802 : decode cL_law 802 = .ok (.iload 6, 2) := by decide +kernel
theorem dL_law_804 : decode cL_law 804 = .ok (.i2l, 1) := by decide +kernel
theorem dL_law_805 : decode cL_law 805 = .ok (.lcmp, 1) := by decide +kernel
theorem dL_law_806 : decode cL_law 806 = .ok (.ifCond .eq 5, 3) := by decide +kernel
theorem dL_law_809 : decode cL_law 809 = .ok (.iconst 0, 1) := by decide +kernel
theorem dL_law_810 : decode cL_law 810 = .ok (.ireturn, 1) := by decide +kernel
theorem dL_law_811 : decode cL_law 811 = .ok (.goto 855, 3) := by decide +kernel
theorem dL_law_814 : decode cL_law 814 = .ok (.aload_n 1, 1) := by decide +kernel
theorem dL_law_815 : decode cL_law 815 = .ok (.aload_n 0, 1) := by decide +kernel
theorem dL_law_816 : decode cL_law 816 = .ok (.iload 4, 2) := by decide +kernel
theorem dL_law_818 : decode cL_law 818 = .ok (.iconst 1, 1) := by decide +kernel
theorem dL_law_819 : decode cL_law 819 = .ok (.iadd, 1) := by decide +kernel
theorem dL_law_820 : decode cL_law 820 = .ok (.iaload, 1) := by decide +kernel
theorem dL_law_821 : decode cL_law 821 = .ok (.aload_n 3, 1) := by decide +kernel
theorem dL_law_822 : decode cL_law 822 = .ok (.invokestatic 147, 3) := by decide +kernel
theorem dL_law_825 : decode cL_law 825 = .ok (.istore 5, 2) := by decide +kernel
theorem dL_law_827 : decode cL_law 827 = .ok (.aload_n 2, 1) := by decide +kernel
theorem dL_law_828 : decode cL_law 828 = .ok (.aload_n 0, 1) := by decide +kernel
theorem dL_law_829 : decode cL_law 829 = .ok (.iload 4, 2) := by decide +kernel
theorem dL_law_831 : decode cL_law 831 = .ok (.iconst 1, 1) := by decide +kernel
theorem dL_law_832 : decode cL_law 832 = .ok (.iadd, 1) := by decide +kernel
theorem dL_law_833 : decode cL_law 833 = .ok (.iaload, 1) := by decide +kernel
theorem dL_law_834 : decode cL_law 834 = .ok (.invokevirtual 149, 3) := by decide +kernel
theorem dL_law_837 : decode cL_law 837 = .ok (.istore 6, 2) := by decide +kernel
theorem dL_law_839 : decode cL_law 839 = .ok (.aload_n 2, 1) := by decide +kernel
theorem dL_law_840 : decode cL_law 840 = .ok (.invokevirtual 93, 3) := by decide +kernel
theorem dL_law_843 : decode cL_law 843 = .ok (.iload 5, 2) := by decide +kernel
theorem dL_law_845 : decode cL_law 845 = .ok (.if_icmp .eq 5, 3) := by decide +kernel
theorem dL_law_848 : decode cL_law 848 = .ok (.iconst 0, 1) := by decide +kernel
theorem dL_law_849 : decode cL_law 849 = .ok (.ireturn, 1) := by decide +kernel
theorem dL_law_850 : decode cL_law 850 = .ok (.iload 5, 2) := by decide +kernel
theorem dL_law_852 : decode cL_law 852 = .ok (.ifCond .ne 22, 3) := by decide +kernel
theorem dL_law_855 : decode cL_law 855 = .ok (.aload_n 3, 1) := by decide +kernel
theorem dL_law_856 : decode cL_law 856 = .ok (.iconst 0, 1) := by decide +kernel
theorem dL_law_857 : decode cL_law 857 = .ok (.laload, 1) := by decide +kernel
theorem dL_law_858 : decode cL_law 858 = .ok (.iload 6, 2) := by decide +kernel
theorem dL_law_860 : decode cL_law 860 = .ok (.ifCond .eq 7, 3) := by decide +kernel
theorem dL_law_863 : decode cL_law 863 = .ok (.lconst 1, 1) := by decide +kernel
theorem dL_law_864 : decode cL_law 864 = .ok (.goto 4, 3) := by decide +kernel
theorem dL_law_867 : decode cL_law 867 = .ok (.lconst 0, 1) := by decide +kernel
theorem dL_law_868 : decode cL_law 868 = .ok (.lcmp, 1) := by decide +kernel
theorem dL_law_869 : decode cL_law 869 = .ok (.ifCond .eq 5, 3) := by decide +kernel
theorem dL_law_872 : decode cL_law 872 = .ok (.iconst 0, 1) := by decide +kernel
theorem dL_law_873 : decode cL_law 873 = .ok (.ireturn, 1) := by decide +kernel
theorem dL_law_874 : decode cL_law 874 = .ok (.goto 792, 3) := by decide +kernel
theorem dL_law_877 : decode cL_law 877 = .ok (.aload_n 1, 1) := by decide +kernel
theorem dL_law_878 : decode cL_law 878 = .ok (.aload_n 0, 1) := by decide +kernel
theorem dL_law_879 : decode cL_law 879 = .ok (.iload 4, 2) := by decide +kernel
theorem dL_law_881 : decode cL_law 881 = .ok (.iconst 1, 1) := by decide +kernel
theorem dL_law_882 : decode cL_law 882 = .ok (.iadd, 1) := by decide +kernel
theorem dL_law_883 : decode cL_law 883 = .ok (.iaload, 1) := by decide +kernel
theorem dL_law_884 : decode cL_law 884 = .ok (.aload_n 3, 1) := by decide +kernel
theorem dL_law_885 : decode cL_law 885 = .ok (.invokestatic 150, 3) := by decide +kernel
theorem dL_law_888 : decode cL_law 888 = .ok (.istore 5, 2) := by decide +kernel
theorem dL_law_890 : decode cL_law 890 = .ok (.aload_n 2, 1) := by decide +kernel
theorem dL_law_891 : decode cL_law 891 = .ok (.aload_n 0, 1) := by decide +kernel
theorem dL_law_892 : decode cL_law 892 = .ok (.iload 4, 2) := by decide +kernel
theorem dL_law_894 : decode cL_law 894 = .ok (.iconst 1, 1) := by decide +kernel
theorem dL_law_895 : decode cL_law 895 = .ok (.iadd, 1) := by decide +kernel
theorem dL_law_896 : decode cL_law 896 = .ok (.iaload, 1) := by decide +kernel
theorem dL_law_897 : decode cL_law 897 = .ok (.invokevirtual 152, 3) := by decide +kernel
theorem dL_law_900 : decode cL_law 900 = .ok (.istore 6, 2) := by decide +kernel
theorem dL_law_902 : decode cL_law 902 = .ok (.aload_n 2, 1) := by decide +kernel
theorem dL_law_903 : decode cL_law 903 = .ok (.invokevirtual 93, 3) := by decide +kernel
theorem dL_law_906 : decode cL_law 906 = .ok (.iload 5, 2) := by decide +kernel
theorem dL_law_908 : decode cL_law 908 = .ok (.if_icmp .eq 5, 3) := by decide +kernel
theorem dL_law_911 : decode cL_law 911 = .ok (.iconst 0, 1) := by decide +kernel
theorem dL_law_912 : decode cL_law 912 = .ok (.ireturn, 1) := by decide +kernel
theorem dL_law_913 : decode cL_law 913 = .ok (.iload 5, 2) := by decide +kernel
theorem dL_law_915 : decode cL_law 915 = .ok (.ifCond .ne 15, 3) := by decide +kernel
theorem dL_law_918 : decode cL_law 918 = .ok (.aload_n 3, 1) := by decide +kernel
theorem dL_law_919 : decode cL_law 919 = .ok (.iconst 0, 1) := by decide +kernel
theorem dL_law_920 : decode cL_law 920 = .ok (.laload, 1) := by decide +kernel
theorem dL_law_921 : decode cL_law 921 = .ok (.iload 6, 2) := by decide +kernel
theorem dL_law_923 : decode cL_law 923 = .ok (.i2l, 1) := by decide +kernel
theorem dL_law_924 : decode cL_law 924 = .ok (.lcmp, 1) := by decide +kernel
theorem dL_law_925 : decode cL_law 925 = .ok (.ifCond .eq 5, 3) := by decide +kernel
theorem dL_law_928 : decode cL_law 928 = .ok (.iconst 0, 1) := by decide +kernel
theorem dL_law_929 : decode cL_law 929 = .ok (.ireturn, 1) := by decide +kernel
theorem dL_law_930 : decode cL_law 930 = .ok (.goto 736, 3) := by decide +kernel
theorem dL_law_933 : decode cL_law 933 = .ok (.aload_n 1, 1) := by decide +kernel
theorem dL_law_934 : decode cL_law 934 = .ok (.aload_n 0, 1) := by decide +kernel
theorem dL_law_935 : decode cL_law 935 = .ok (.iload 4, 2) := by decide +kernel
theorem dL_law_937 : decode cL_law 937 = .ok (.iconst 1, 1) := by decide +kernel
theorem dL_law_938 : decode cL_law 938 = .ok (.iadd, 1) := by decide +kernel
theorem dL_law_939 : decode cL_law 939 = .ok (.iaload, 1) := by decide +kernel
theorem dL_law_940 : decode cL_law 940 = .ok (.aload_n 3, 1) := by decide +kernel
theorem dL_law_941 : decode cL_law 941 = .ok (.invokestatic 153, 3) := by decide +kernel
theorem dL_law_944 : decode cL_law 944 = .ok (.istore 5, 2) := by decide +kernel
theorem dL_law_946 : decode cL_law 946 = .ok (.aload_n 2, 1) := by decide +kernel
theorem dL_law_947 : decode cL_law 947 = .ok (.aload_n 0, 1) := by decide +kernel
theorem dL_law_948 : decode cL_law 948 = .ok (.iload 4, 2) := by decide +kernel
theorem dL_law_950 : decode cL_law 950 = .ok (.iconst 1, 1) := by decide +kernel
theorem dL_law_951 : decode cL_law 951 = .ok (.iadd, 1) := by decide +kernel
theorem dL_law_952 : decode cL_law 952 = .ok (.iaload, 1) := by decide +kernel
theorem dL_law_953 : decode cL_law 953 = .ok (.invokevirtual 155, 3) := by decide +kernel
theorem dL_law_956 : decode cL_law 956 = .ok (.istore 6, 2) := by decide +kernel
theorem dL_law_958 : decode cL_law 958 = .ok (.aload_n 2, 1) := by decide +kernel
theorem dL_law_959 : decode cL_law 959 = .ok (.invokevirtual 93, 3) := by decide +kernel
theorem dL_law_962 : decode cL_law 962 = .ok (.iload 5, 2) := by decide +kernel
theorem dL_law_964 : decode cL_law 964 = .ok (.if_icmp .eq 5, 3) := by decide +kernel
theorem dL_law_967 : decode cL_law 967 = .ok (.iconst 0, 1) := by decide +kernel
theorem dL_law_968 : decode cL_law 968 = .ok (.ireturn, 1) := by decide +kernel
theorem dL_law_969 : decode cL_law 969 = .ok (.iload 5, 2) := by decide +kernel
theorem dL_law_971 : decode cL_law 971 = .ok (.ifCond .ne 15, 3) := by decide +kernel
theorem dL_law_974 : decode cL_law 974 = .ok (.aload_n 3, 1) := by decide +kernel
theorem dL_law_975 : decode cL_law 975 = .ok (.iconst 0, 1) := by decide +kernel
theorem dL_law_976 : decode cL_law 976 = .ok (.laload, 1) := by decide +kernel
theorem dL_law_977 : decode cL_law 977 = .ok (.iload 6, 2) := by decide +kernel
theorem dL_law_979 : decode cL_law 979 = .ok (.i2l, 1) := by decide +kernel
theorem dL_law_980 : decode cL_law 980 = .ok (.lcmp, 1) := by decide +kernel
theorem dL_law_981 : decode cL_law 981 = .ok (.ifCond .eq 5, 3) := by decide +kernel
theorem dL_law_984 : decode cL_law 984 = .ok (.iconst 0, 1) := by decide +kernel
theorem dL_law_985 : decode cL_law 985 = .ok (.ireturn, 1) := by decide +kernel
theorem dL_law_986 : decode cL_law 986 = .ok (.goto 680, 3) := by decide +kernel
theorem dL_law_989 : decode cL_law 989 = .ok (.aload_n 1, 1) := by decide +kernel
theorem dL_law_990 : decode cL_law 990 = .ok (.invokevirtual 156, 3) := by decide +kernel
theorem dL_law_993 : decode cL_law 993 = .ok (.aload_n 2, 1) := by decide +kernel
theorem dL_law_994 : decode cL_law 994 = .ok (.invokevirtual 159, 3) := by decide +kernel
theorem dL_law_997 : decode cL_law 997 = .ok (.if_icmp .eq 669, 3) := by decide +kernel
theorem dL_law_1000 : decode cL_law 1000 = .ok (.iconst 0, 1) := by decide +kernel
theorem dL_law_1001 : decode cL_law 1001 = .ok (.ireturn, 1) := by decide +kernel
theorem dL_law_1002 : decode cL_law 1002 = .ok (.aload_n 1, 1) := by decide +kernel
theorem dL_law_1003 : decode cL_law 1003 = .ok (.invokevirtual 160, 3) := by decide +kernel
theorem dL_law_1006 : decode cL_law 1006 = .ok (.aload_n 2, 1) := by decide +kernel
theorem dL_law_1007 : decode cL_law 1007 = .ok (.invokevirtual 163, 3) := by decide +kernel
theorem dL_law_1010 : decode cL_law 1010 = .ok (.if_icmp .eq 656, 3) := by decide +kernel
theorem dL_law_1013 : decode cL_law 1013 = .ok (.iconst 0, 1) := by decide +kernel
theorem dL_law_1014 : decode cL_law 1014 = .ok (.ireturn, 1) := by decide +kernel
theorem dL_law_1015 : decode cL_law 1015 = .ok (.aload_n 1, 1) := by decide +kernel
theorem dL_law_1016 : decode cL_law 1016 = .ok (.invokevirtual 164, 3) := by decide +kernel
theorem dL_law_1019 : decode cL_law 1019 = .ok (.aload_n 2, 1) := by decide +kernel
theorem dL_law_1020 : decode cL_law 1020 = .ok (.invokevirtual 167, 3) := by decide +kernel
theorem dL_law_1023 : decode cL_law 1023 = .ok (.if_icmp .eq 643, 3) := by decide +kernel
theorem dL_law_1026 : decode cL_law 1026 = .ok (.iconst 0, 1) := by decide +kernel
theorem dL_law_1027 : decode cL_law 1027 = .ok (.ireturn, 1) := by decide +kernel
theorem dL_law_1028 : decode cL_law 1028 = .ok (.aload_n 1, 1) := by decide +kernel
theorem dL_law_1029 : decode cL_law 1029 = .ok (.aload_n 0, 1) := by decide +kernel
theorem dL_law_1030 : decode cL_law 1030 = .ok (.iload 4, 2) := by decide +kernel
theorem dL_law_1032 : decode cL_law 1032 = .ok (.iconst 1, 1) := by decide +kernel
theorem dL_law_1033 : decode cL_law 1033 = .ok (.iadd, 1) := by decide +kernel
theorem dL_law_1034 : decode cL_law 1034 = .ok (.iaload, 1) := by decide +kernel
theorem dL_law_1035 : decode cL_law 1035 = .ok (.aload_n 3, 1) := by decide +kernel
theorem dL_law_1036 : decode cL_law 1036 = .ok (.invokestatic 168, 3) := by decide +kernel
theorem dL_law_1039 : decode cL_law 1039 = .ok (.istore 5, 2) := by decide +kernel
theorem dL_law_1041 : decode cL_law 1041 = .ok (.aload_n 2, 1) := by decide +kernel
theorem dL_law_1042 : decode cL_law 1042 = .ok (.aload_n 0, 1) := by decide +kernel
theorem dL_law_1043 : decode cL_law 1043 = .ok (.iload 4, 2) := by decide +kernel
theorem dL_law_1045 : decode cL_law 1045 = .ok (.iconst 1, 1) := by decide +kernel
theorem dL_law_1046 : decode cL_law 1046 = .ok (.iadd, 1) := by decide +kernel
theorem dL_law_1047 : decode cL_law 1047 = .ok (.iaload, 1) := by decide +kernel
theorem dL_law_1048 : decode cL_law 1048 = .ok (.invokevirtual 170, 3) := by decide +kernel
theorem dL_law_1051 : decode cL_law 1051 = .ok (.istore 6, 2) := by decide +kernel
theorem dL_law_1053 : decode cL_law 1053 = .ok (.aload_n 2, 1) := by decide +kernel
theorem dL_law_1054 : decode cL_law 1054 = .ok (.invokevirtual 93, 3) := by decide +kernel
theorem dL_law_1057 : decode cL_law 1057 = .ok (.iload 5, 2) := by decide +kernel
theorem dL_law_1059 : decode cL_law 1059 = .ok (.if_icmp .eq 5, 3) := by decide +kernel
theorem dL_law_1062 : decode cL_law 1062 = .ok (.iconst 0, 1) := by decide +kernel
theorem dL_law_1063 : decode cL_law 1063 = .ok (.ireturn, 1) := by decide +kernel
theorem dL_law_1064 : decode cL_law 1064 = .ok (.iload 5, 2) := by decide +kernel
theorem dL_law_1066 : decode cL_law 1066 = .ok (.ifCond .ne 15, 3) := by decide +kernel
theorem dL_law_1069 : decode cL_law 1069 = .ok (.aload_n 3, 1) := by decide +kernel
theorem dL_law_1070 : decode cL_law 1070 = .ok (.iconst 0, 1) := by decide +kernel
theorem dL_law_1071 : decode cL_law 1071 = .ok (.laload, 1) := by decide +kernel
theorem dL_law_1072 : decode cL_law 1072 = .ok (.iload 6, 2) := by decide +kernel
theorem dL_law_1074 : decode cL_law 1074 = .ok (.i2l, 1) := by decide +kernel
theorem dL_law_1075 : decode cL_law 1075 = .ok (.lcmp, 1) := by decide +kernel
theorem dL_law_1076 : decode cL_law 1076 = .ok (.ifCond .eq 5, 3) := by decide +kernel
theorem dL_law_1079 : decode cL_law 1079 = .ok (.iconst 0, 1) := by decide +kernel
theorem dL_law_1080 : decode cL_law 1080 = .ok (.ireturn, 1) := by decide +kernel
theorem dL_law_1081 : decode cL_law 1081 = .ok (.goto 585, 3) := by decide +kernel
theorem dL_law_1084 : decode cL_law 1084 = .ok (.aload_n 1, 1) := by decide +kernel
theorem dL_law_1085 : decode cL_law 1085 = .ok (.aload_n 0, 1) := by decide +kernel
theorem dL_law_1086 : decode cL_law 1086 = .ok (.iload 4, 2) := by decide +kernel
theorem dL_law_1088 : decode cL_law 1088 = .ok (.iconst 1, 1) := by decide +kernel
theorem dL_law_1089 : decode cL_law 1089 = .ok (.iadd, 1) := by decide +kernel
theorem dL_law_1090 : decode cL_law 1090 = .ok (.iaload, 1) := by decide +kernel
theorem dL_law_1091 : decode cL_law 1091 = .ok (.aload_n 3, 1) := by decide +kernel
theorem dL_law_1092 : decode cL_law 1092 = .ok (.invokestatic 171, 3) := by decide +kernel
theorem dL_law_1095 : decode cL_law 1095 = .ok (.istore 5, 2) := by decide +kernel
theorem dL_law_1097 : decode cL_law 1097 = .ok (.aload_n 2, 1) := by decide +kernel
theorem dL_law_1098 : decode cL_law 1098 = .ok (.aload_n 0, 1) := by decide +kernel
theorem dL_law_1099 : decode cL_law 1099 = .ok (.iload 4, 2) := by decide +kernel
theorem dL_law_1101 : decode cL_law 1101 = .ok (.iconst 1, 1) := by decide +kernel
theorem dL_law_1102 : decode cL_law 1102 = .ok (.iadd, 1) := by decide +kernel
theorem dL_law_1103 : decode cL_law 1103 = .ok (.iaload, 1) := by decide +kernel
theorem dL_law_1104 : decode cL_law 1104 = .ok (.invokevirtual 173, 3) := by decide +kernel
theorem dL_law_1107 : decode cL_law 1107 = .ok (.istore 6, 2) := by decide +kernel
theorem dL_law_1109 : decode cL_law 1109 = .ok (.aload_n 2, 1) := by decide +kernel
theorem dL_law_1110 : decode cL_law 1110 = .ok (.invokevirtual 93, 3) := by decide +kernel
theorem dL_law_1113 : decode cL_law 1113 = .ok (.iload 5, 2) := by decide +kernel
theorem dL_law_1115 : decode cL_law 1115 = .ok (.if_icmp .eq 5, 3) := by decide +kernel
theorem dL_law_1118 : decode cL_law 1118 = .ok (.iconst 0, 1) := by decide +kernel
theorem dL_law_1119 : decode cL_law 1119 = .ok (.ireturn, 1) := by decide +kernel
theorem dL_law_1120 : decode cL_law 1120 = .ok (.iload 5, 2) := by decide +kernel
theorem dL_law_1122 : decode cL_law 1122 = .ok (.ifCond .ne 15, 3) := by decide +kernel
theorem dL_law_1125 : decode cL_law 1125 = .ok (.aload_n 3, 1) := by decide +kernel
theorem dL_law_1126 : decode cL_law 1126 = .ok (.iconst 0, 1) := by decide +kernel
theorem dL_law_1127 : decode cL_law 1127 = .ok (.laload, 1) := by decide +kernel
theorem dL_law_1128 : decode cL_law 1128 = .ok (.iload 6, 2) := by decide +kernel
theorem dL_law_1130 : decode cL_law 1130 = .ok (.i2l, 1) := by decide +kernel
theorem dL_law_1131 : decode cL_law 1131 = .ok (.lcmp, 1) := by decide +kernel
theorem dL_law_1132 : decode cL_law 1132 = .ok (.ifCond .eq 5, 3) := by decide +kernel
theorem dL_law_1135 : decode cL_law 1135 = .ok (.iconst 0, 1) := by decide +kernel
theorem dL_law_1136 : decode cL_law 1136 = .ok (.ireturn, 1) := by decide +kernel
theorem dL_law_1137 : decode cL_law 1137 = .ok (.goto 529, 3) := by decide +kernel
theorem dL_law_1140 : decode cL_law 1140 = .ok (.aload_n 1, 1) := by decide +kernel
theorem dL_law_1141 : decode cL_law 1141 = .ok (.aload_n 0, 1) := by decide +kernel
theorem dL_law_1142 : decode cL_law 1142 = .ok (.iload 4, 2) := by decide +kernel
theorem dL_law_1144 : decode cL_law 1144 = .ok (.iconst 1, 1) := by decide +kernel
theorem dL_law_1145 : decode cL_law 1145 = .ok (.iadd, 1) := by decide +kernel
theorem dL_law_1146 : decode cL_law 1146 = .ok (.iaload, 1) := by decide +kernel
theorem dL_law_1147 : decode cL_law 1147 = .ok (.aload_n 3, 1) := by decide +kernel
theorem dL_law_1148 : decode cL_law 1148 = .ok (.invokestatic 174, 3) := by decide +kernel
theorem dL_law_1151 : decode cL_law 1151 = .ok (.istore 5, 2) := by decide +kernel
theorem dL_law_1153 : decode cL_law 1153 = .ok (.aload_n 2, 1) := by decide +kernel
theorem dL_law_1154 : decode cL_law 1154 = .ok (.aload_n 0, 1) := by decide +kernel
theorem dL_law_1155 : decode cL_law 1155 = .ok (.iload 4, 2) := by decide +kernel
theorem dL_law_1157 : decode cL_law 1157 = .ok (.iconst 1, 1) := by decide +kernel
theorem dL_law_1158 : decode cL_law 1158 = .ok (.iadd, 1) := by decide +kernel
theorem dL_law_1159 : decode cL_law 1159 = .ok (.iaload, 1) := by decide +kernel
theorem dL_law_1160 : decode cL_law 1160 = .ok (.invokevirtual 176, 3) := by decide +kernel
theorem dL_law_1163 : decode cL_law 1163 = .ok (.istore 6, 2) := by decide +kernel
theorem dL_law_1165 : decode cL_law 1165 = .ok (.aload_n 2, 1) := by decide +kernel
theorem dL_law_1166 : decode cL_law 1166 = .ok (.invokevirtual 93, 3) := by decide +kernel
theorem dL_law_1169 : decode cL_law 1169 = .ok (.iload 5, 2) := by decide +kernel
theorem dL_law_1171 : decode cL_law 1171 = .ok (.if_icmp .eq 5, 3) := by decide +kernel
theorem dL_law_1174 : decode cL_law 1174 = .ok (.iconst 0, 1) := by decide +kernel
theorem dL_law_1175 : decode cL_law 1175 = .ok (.ireturn, 1) := by decide +kernel
theorem dL_law_1176 : decode cL_law 1176 = .ok (.iload 5, 2) := by decide +kernel
theorem dL_law_1178 : decode cL_law 1178 = .ok (.ifCond .ne 15, 3) := by decide +kernel
theorem dL_law_1181 : decode cL_law 1181 = .ok (.aload_n 3, 1) := by decide +kernel
theorem dL_law_1182 : decode cL_law 1182 = .ok (.iconst 0, 1) := by decide +kernel
theorem dL_law_1183 : decode cL_law 1183 = .ok (.laload, 1) := by decide +kernel
theorem dL_law_1184 : decode cL_law 1184 = .ok (.iload 6, 2) := by decide +kernel
theorem dL_law_1186 : decode cL_law 1186 = .ok (.i2l, 1) := by decide +kernel
theorem dL_law_1187 : decode cL_law 1187 = .ok (.lcmp, 1) := by decide +kernel
theorem dL_law_1188 : decode cL_law 1188 = .ok (.ifCond .eq 5, 3) := by decide +kernel
theorem dL_law_1191 : decode cL_law 1191 = .ok (.iconst 0, 1) := by decide +kernel
theorem dL_law_1192 : decode cL_law 1192 = .ok (.ireturn, 1) := by decide +kernel
theorem dL_law_1193 : decode cL_law 1193 = .ok (.goto 473, 3) := by decide +kernel
theorem dL_law_1196 : decode cL_law 1196 = .ok (.aload_n 1, 1) := by decide +kernel
theorem dL_law_1197 : decode cL_law 1197 = .ok (.aload_n 0, 1) := by decide +kernel
theorem dL_law_1198 : decode cL_law 1198 = .ok (.iload 4, 2) := by decide +kernel
theorem dL_law_1200 : decode cL_law 1200 = .ok (.iconst 1, 1) := by decide +kernel
theorem dL_law_1201 : decode cL_law 1201 = .ok (.iadd, 1) := by decide +kernel
theorem dL_law_1202 : decode cL_law 1202 = .ok (.iaload, 1) := by decide +kernel
theorem dL_law_1203 : decode cL_law 1203 = .ok (.aload_n 3, 1) := by decide +kernel
theorem dL_law_1204 : decode cL_law 1204 = .ok (.invokestatic 177, 3) := by decide +kernel
theorem dL_law_1207 : decode cL_law 1207 = .ok (.istore 5, 2) := by decide +kernel
theorem dL_law_1209 : decode cL_law 1209 = .ok (.aload_n 2, 1) := by decide +kernel
theorem dL_law_1210 : decode cL_law 1210 = .ok (.aload_n 0, 1) := by decide +kernel
theorem dL_law_1211 : decode cL_law 1211 = .ok (.iload 4, 2) := by decide +kernel
theorem dL_law_1213 : decode cL_law 1213 = .ok (.iconst 1, 1) := by decide +kernel
theorem dL_law_1214 : decode cL_law 1214 = .ok (.iadd, 1) := by decide +kernel
theorem dL_law_1215 : decode cL_law 1215 = .ok (.iaload, 1) := by decide +kernel
theorem dL_law_1216 : decode cL_law 1216 = .ok (.invokevirtual 179, 3) := by decide +kernel
theorem dL_law_1219 : decode cL_law 1219 = .ok (.istore 6, 2) := by decide +kernel
theorem dL_law_1221 : decode cL_law 1221 = .ok (.aload_n 2, 1) := by decide +kernel
theorem dL_law_1222 : decode cL_law 1222 = .ok (.invokevirtual 93, 3) := by decide +kernel
theorem dL_law_1225 : decode cL_law 1225 = .ok (.iload 5, 2) := by decide +kernel
theorem dL_law_1227 : decode cL_law 1227 = .ok (.if_icmp .eq 5, 3) := by decide +kernel
theorem dL_law_1230 : decode cL_law 1230 = .ok (.iconst 0, 1) := by decide +kernel
theorem dL_law_1231 : decode cL_law 1231 = .ok (.ireturn, 1) := by decide +kernel
theorem dL_law_1232 : decode cL_law 1232 = .ok (.iload 5, 2) := by decide +kernel
theorem dL_law_1234 : decode cL_law 1234 = .ok (.ifCond .ne 22, 3) := by decide +kernel
theorem dL_law_1237 : decode cL_law 1237 = .ok (.aload_n 3, 1) := by decide +kernel
theorem dL_law_1238 : decode cL_law 1238 = .ok (.iconst 0, 1) := by decide +kernel
theorem dL_law_1239 : decode cL_law 1239 = .ok (.laload, 1) := by decide +kernel
theorem dL_law_1240 : decode cL_law 1240 = .ok (.iload 6, 2) := by decide +kernel
theorem dL_law_1242 : decode cL_law 1242 = .ok (.ifCond .eq 7, 3) := by decide +kernel
theorem dL_law_1245 : decode cL_law 1245 = .ok (.lconst 1, 1) := by decide +kernel
theorem dL_law_1246 : decode cL_law 1246 = .ok (.goto 4, 3) := by decide +kernel
theorem dL_law_1249 : decode cL_law 1249 = .ok (.lconst 0, 1) := by decide +kernel
theorem dL_law_1250 : decode cL_law 1250 = .ok (.lcmp, 1) := by decide +kernel
theorem dL_law_1251 : decode cL_law 1251 = .ok (.ifCond .eq 5, 3) := by decide +kernel
theorem dL_law_1254 : decode cL_law 1254 = .ok (.iconst 0, 1) := by decide +kernel
theorem dL_law_1255 : decode cL_law 1255 = .ok (.ireturn, 1) := by decide +kernel
theorem dL_law_1256 : decode cL_law 1256 = .ok (.goto 410, 3) := by decide +kernel
theorem dL_law_1259 : decode cL_law 1259 = .ok (.aload_n 1, 1) := by decide +kernel
theorem dL_law_1260 : decode cL_law 1260 = .ok (.aload_n 0, 1) := by decide +kernel
theorem dL_law_1261 : decode cL_law 1261 = .ok (.iload 4, 2) := by decide +kernel
theorem dL_law_1263 : decode cL_law 1263 = .ok (.iconst 1, 1) := by decide +kernel
theorem dL_law_1264 : decode cL_law 1264 = .ok (.iadd, 1) := by decide +kernel
theorem dL_law_1265 : decode cL_law 1265 = .ok (.iaload, 1) := by decide +kernel
theorem dL_law_1266 : decode cL_law 1266 = .ok (.aload_n 3, 1) := by decide +kernel
theorem dL_law_1267 : decode cL_law 1267 = .ok (.invokestatic 180, 3) := by decide +kernel
theorem dL_law_1270 : decode cL_law 1270 = .ok (.istore 5, 2) := by decide +kernel
theorem dL_law_1272 : decode cL_law 1272 = .ok (.aload_n 2, 1) := by decide +kernel
theorem dL_law_1273 : decode cL_law 1273 = .ok (.aload_n 0, 1) := by decide +kernel
theorem dL_law_1274 : decode cL_law 1274 = .ok (.iload 4, 2) := by decide +kernel
theorem dL_law_1276 : decode cL_law 1276 = .ok (.iconst 1, 1) := by decide +kernel
theorem dL_law_1277 : decode cL_law 1277 = .ok (.iadd, 1) := by decide +kernel
theorem dL_law_1278 : decode cL_law 1278 = .ok (.iaload, 1) := by decide +kernel
theorem dL_law_1279 : decode cL_law 1279 = .ok (.invokevirtual 182, 3) := by decide +kernel
theorem dL_law_1282 : decode cL_law 1282 = .ok (.istore 6, 2) := by decide +kernel
theorem dL_law_1284 : decode cL_law 1284 = .ok (.aload_n 2, 1) := by decide +kernel
theorem dL_law_1285 : decode cL_law 1285 = .ok (.invokevirtual 93, 3) := by decide +kernel
theorem dL_law_1288 : decode cL_law 1288 = .ok (.iload 5, 2) := by decide +kernel
theorem dL_law_1290 : decode cL_law 1290 = .ok (.if_icmp .eq 5, 3) := by decide +kernel
theorem dL_law_1293 : decode cL_law 1293 = .ok (.iconst 0, 1) := by decide +kernel
theorem dL_law_1294 : decode cL_law 1294 = .ok (.ireturn, 1) := by decide +kernel
theorem dL_law_1295 : decode cL_law 1295 = .ok (.iload 5, 2) := by decide +kernel
theorem dL_law_1297 : decode cL_law 1297 = .ok (.ifCond .ne 22, 3) := by decide +kernel
theorem dL_law_1300 : decode cL_law 1300 = .ok (.aload_n 3, 1) := by decide +kernel
theorem dL_law_1301 : decode cL_law 1301 = .ok (.iconst 0, 1) := by decide +kernel
theorem dL_law_1302 : decode cL_law 1302 = .ok (.laload, 1) := by decide +kernel
theorem dL_law_1303 : decode cL_law 1303 = .ok (.iload 6, 2) := by decide +kernel
theorem dL_law_1305 : decode cL_law 1305 = .ok (.ifCond .eq 7, 3) := by decide +kernel
theorem dL_law_1308 : decode cL_law 1308 = .ok (.lconst 1, 1) := by decide +kernel
theorem dL_law_1309 : decode cL_law 1309 = .ok (.goto 4, 3) := by decide +kernel
theorem dL_law_1312 : decode cL_law 1312 = .ok (.lconst 0, 1) := by decide +kernel
theorem dL_law_1313 : decode cL_law 1313 = .ok (.lcmp, 1) := by decide +kernel
theorem dL_law_1314 : decode cL_law 1314 = .ok (.ifCond .eq 5, 3) := by decide +kernel
theorem dL_law_1317 : decode cL_law 1317 = .ok (.iconst 0, 1) := by decide +kernel
theorem dL_law_1318 : decode cL_law 1318 = .ok (.ireturn, 1) := by decide +kernel
theorem dL_law_1319 : decode cL_law 1319 = .ok (.goto 347, 3) := by decide +kernel
theorem dL_law_1322 : decode cL_law 1322 = .ok (.aload_n 1, 1) := by decide +kernel
theorem dL_law_1323 : decode cL_law 1323 = .ok (.aload_n 0, 1) := by decide +kernel
theorem dL_law_1324 : decode cL_law 1324 = .ok (.iload 4, 2) := by decide +kernel
theorem dL_law_1326 : decode cL_law 1326 = .ok (.iconst 1, 1) := by decide +kernel
theorem dL_law_1327 : decode cL_law 1327 = .ok (.iadd, 1) := by decide +kernel
theorem dL_law_1328 : decode cL_law 1328 = .ok (.iaload, 1) := by decide +kernel
theorem dL_law_1329 : decode cL_law 1329 = .ok (.aload_n 3, 1) := by decide +kernel
theorem dL_law_1330 : decode cL_law 1330 = .ok (.invokestatic 183, 3) := by decide +kernel
theorem dL_law_1333 : decode cL_law 1333 = .ok (.istore 5, 2) := by decide +kernel
theorem dL_law_1335 : decode cL_law 1335 = .ok (.aload_n 2, 1) := by decide +kernel
theorem dL_law_1336 : decode cL_law 1336 = .ok (.aload_n 0, 1) := by decide +kernel
theorem dL_law_1337 : decode cL_law 1337 = .ok (.iload 4, 2) := by decide +kernel
theorem dL_law_1339 : decode cL_law 1339 = .ok (.iconst 1, 1) := by decide +kernel
theorem dL_law_1340 : decode cL_law 1340 = .ok (.iadd, 1) := by decide +kernel
theorem dL_law_1341 : decode cL_law 1341 = .ok (.iaload, 1) := by decide +kernel
theorem dL_law_1342 : decode cL_law 1342 = .ok (.invokevirtual 185, 3) := by decide +kernel
theorem dL_law_1345 : decode cL_law 1345 = .ok (.istore 6, 2) := by decide +kernel
theorem dL_law_1347 : decode cL_law 1347 = .ok (.aload_n 2, 1) := by decide +kernel
theorem dL_law_1348 : decode cL_law 1348 = .ok (.invokevirtual 93, 3) := by decide +kernel
theorem dL_law_1351 : decode cL_law 1351 = .ok (.iload 5, 2) := by decide +kernel
theorem dL_law_1353 : decode cL_law 1353 = .ok (.if_icmp .eq 5, 3) := by decide +kernel
theorem dL_law_1356 : decode cL_law 1356 = .ok (.iconst 0, 1) := by decide +kernel
theorem dL_law_1357 : decode cL_law 1357 = .ok (.ireturn, 1) := by decide +kernel
theorem dL_law_1358 : decode cL_law 1358 = .ok (.iload 5, 2) := by decide +kernel
theorem dL_law_1360 : decode cL_law 1360 = .ok (.ifCond .ne 15, 3) := by decide +kernel
theorem dL_law_1363 : decode cL_law 1363 = .ok (.aload_n 3, 1) := by decide +kernel
theorem dL_law_1364 : decode cL_law 1364 = .ok (.iconst 0, 1) := by decide +kernel
theorem dL_law_1365 : decode cL_law 1365 = .ok (.laload, 1) := by decide +kernel
theorem dL_law_1366 : decode cL_law 1366 = .ok (.iload 6, 2) := by decide +kernel
theorem dL_law_1368 : decode cL_law 1368 = .ok (.i2l, 1) := by decide +kernel
theorem dL_law_1369 : decode cL_law 1369 = .ok (.lcmp, 1) := by decide +kernel
theorem dL_law_1370 : decode cL_law 1370 = .ok (.ifCond .eq 5, 3) := by decide +kernel
theorem dL_law_1373 : decode cL_law 1373 = .ok (.iconst 0, 1) := by decide +kernel
theorem dL_law_1374 : decode cL_law 1374 = .ok (.ireturn, 1) := by decide +kernel
theorem dL_law_1375 : decode cL_law 1375 = .ok (.goto 291, 3) := by decide +kernel
theorem dL_law_1378 : decode cL_law 1378 = .ok (.aload_n 1, 1) := by decide +kernel
theorem dL_law_1379 : decode cL_law 1379 = .ok (.aload_n 0, 1) := by decide +kernel
theorem dL_law_1380 : decode cL_law 1380 = .ok (.iload 4, 2) := by decide +kernel
theorem dL_law_1382 : decode cL_law 1382 = .ok (.iconst 1, 1) := by decide +kernel
theorem dL_law_1383 : decode cL_law 1383 = .ok (.iadd, 1) := by decide +kernel
theorem dL_law_1384 : decode cL_law 1384 = .ok (.iaload, 1) := by decide +kernel
theorem dL_law_1385 : decode cL_law 1385 = .ok (.aload_n 3, 1) := by decide +kernel
theorem dL_law_1386 : decode cL_law 1386 = .ok (.invokestatic 186, 3) := by decide +kernel
theorem dL_law_1389 : decode cL_law 1389 = .ok (.istore 5, 2) := by decide +kernel
theorem dL_law_1391 : decode cL_law 1391 = .ok (.aload_n 2, 1) := by decide +kernel
theorem dL_law_1392 : decode cL_law 1392 = .ok (.aload_n 0, 1) := by decide +kernel
theorem dL_law_1393 : decode cL_law 1393 = .ok (.iload 4, 2) := by decide +kernel
theorem dL_law_1395 : decode cL_law 1395 = .ok (.iconst 1, 1) := by decide +kernel
theorem dL_law_1396 : decode cL_law 1396 = .ok (.iadd, 1) := by decide +kernel
theorem dL_law_1397 : decode cL_law 1397 = .ok (.iaload, 1) := by decide +kernel
theorem dL_law_1398 : decode cL_law 1398 = .ok (.invokevirtual 188, 3) := by decide +kernel
theorem dL_law_1401 : decode cL_law 1401 = .ok (.istore 6, 2) := by decide +kernel
theorem dL_law_1403 : decode cL_law 1403 = .ok (.aload_n 2, 1) := by decide +kernel
theorem dL_law_1404 : decode cL_law 1404 = .ok (.invokevirtual 93, 3) := by decide +kernel
theorem dL_law_1407 : decode cL_law 1407 = .ok (.iload 5, 2) := by decide +kernel
theorem dL_law_1409 : decode cL_law 1409 = .ok (.if_icmp .eq 5, 3) := by decide +kernel
theorem dL_law_1412 : decode cL_law 1412 = .ok (.iconst 0, 1) := by decide +kernel
theorem dL_law_1413 : decode cL_law 1413 = .ok (.ireturn, 1) := by decide +kernel
theorem dL_law_1414 : decode cL_law 1414 = .ok (.iload 5, 2) := by decide +kernel
theorem dL_law_1416 : decode cL_law 1416 = .ok (.ifCond .ne 15, 3) := by decide +kernel
theorem dL_law_1419 : decode cL_law 1419 = .ok (.aload_n 3, 1) := by decide +kernel
theorem dL_law_1420 : decode cL_law 1420 = .ok (.iconst 0, 1) := by decide +kernel
theorem dL_law_1421 : decode cL_law 1421 = .ok (.laload, 1) := by decide +kernel
theorem dL_law_1422 : decode cL_law 1422 = .ok (.iload 6, 2) := by decide +kernel
theorem dL_law_1424 : decode cL_law 1424 = .ok (.i2l, 1) := by decide +kernel
theorem dL_law_1425 : decode cL_law 1425 = .ok (.lcmp, 1) := by decide +kernel
theorem dL_law_1426 : decode cL_law 1426 = .ok (.ifCond .eq 5, 3) := by decide +kernel
theorem dL_law_1429 : decode cL_law 1429 = .ok (.iconst 0, 1) := by decide +kernel
theorem dL_law_1430 : decode cL_law 1430 = .ok (.ireturn, 1) := by decide +kernel
theorem dL_law_1431 : decode cL_law 1431 = .ok (.goto 235, 3) := by decide +kernel
theorem dL_law_1434 : decode cL_law 1434 = .ok (.aload_n 1, 1) := by decide +kernel
theorem dL_law_1435 : decode cL_law 1435 = .ok (.invokevirtual 189, 3) := by decide +kernel
theorem dL_law_1438 : decode cL_law 1438 = .ok (.aload_n 2, 1) := by decide +kernel
theorem dL_law_1439 : decode cL_law 1439 = .ok (.invokevirtual 192, 3) := by decide +kernel
theorem dL_law_1442 : decode cL_law 1442 = .ok (.if_icmp .eq 224, 3) := by decide +kernel
theorem dL_law_1445 : decode cL_law 1445 = .ok (.iconst 0, 1) := by decide +kernel
theorem dL_law_1446 : decode cL_law 1446 = .ok (.ireturn, 1) := by decide +kernel
theorem dL_law_1447 : decode cL_law 1447 = .ok (.aload_n 1, 1) := by decide +kernel
theorem dL_law_1448 : decode cL_law 1448 = .ok (.invokevirtual 193, 3) := by decide +kernel
theorem dL_law_1451 : decode cL_law 1451 = .ok (.aload_n 2, 1) := by decide +kernel
theorem dL_law_1452 : decode cL_law 1452 = .ok (.invokevirtual 197, 3) := by decide +kernel
theorem dL_law_1455 : decode cL_law 1455 = .ok (.lcmp, 1) := by decide +kernel
theorem dL_law_1456 : decode cL_law 1456 = .ok (.ifCond .eq 210, 3) := by decide +kernel
theorem dL_law_1459 : decode cL_law 1459 = .ok (.iconst 0, 1) := by decide +kernel
theorem dL_law_1460 : decode cL_law 1460 = .ok (.ireturn, 1) := by decide +kernel
theorem dL_law_1461 : decode cL_law 1461 = .ok (.aload_n 1, 1) := by decide +kernel
theorem dL_law_1462 : decode cL_law 1462 = .ok (.invokevirtual 198, 3) := by decide +kernel
theorem dL_law_1465 : decode cL_law 1465 = .ok (.aload_n 2, 1) := by decide +kernel
theorem dL_law_1466 : decode cL_law 1466 = .ok (.invokevirtual 201, 3) := by decide +kernel
theorem dL_law_1469 : decode cL_law 1469 = .ok (.if_icmp .eq 197, 3) := by decide +kernel
theorem dL_law_1472 : decode cL_law 1472 = .ok (.iconst 0, 1) := by decide +kernel
theorem dL_law_1473 : decode cL_law 1473 = .ok (.ireturn, 1) := by decide +kernel
theorem dL_law_1474 : decode cL_law 1474 = .ok (.aload_n 1, 1) := by decide +kernel
theorem dL_law_1475 : decode cL_law 1475 = .ok (.aload_n 0, 1) := by decide +kernel
theorem dL_law_1476 : decode cL_law 1476 = .ok (.iload 4, 2) := by decide +kernel
theorem dL_law_1478 : decode cL_law 1478 = .ok (.iconst 1, 1) := by decide +kernel
theorem dL_law_1479 : decode cL_law 1479 = .ok (.iadd, 1) := by decide +kernel
theorem dL_law_1480 : decode cL_law 1480 = .ok (.iaload, 1) := by decide +kernel
theorem dL_law_1481 : decode cL_law 1481 = .ok (.aload_n 0, 1) := by decide +kernel
theorem dL_law_1482 : decode cL_law 1482 = .ok (.iload 4, 2) := by decide +kernel
theorem dL_law_1484 : decode cL_law 1484 = .ok (.iconst 2, 1) := by decide +kernel
theorem dL_law_1485 : decode cL_law 1485 = .ok (.iadd, 1) := by decide +kernel
theorem dL_law_1486 : decode cL_law 1486 = .ok (.iaload, 1) := by decide +kernel
theorem dL_law_1487 : decode cL_law 1487 = .ok (.aload_n 3, 1) := by decide +kernel
theorem dL_law_1488 : decode cL_law 1488 = .ok (.invokestatic 202, 3) := by decide +kernel
theorem dL_law_1491 : decode cL_law 1491 = .ok (.istore 5, 2) := by decide +kernel
theorem dL_law_1493 : decode cL_law 1493 = .ok (.aload_n 2, 1) := by decide +kernel
theorem dL_law_1494 : decode cL_law 1494 = .ok (.aload_n 0, 1) := by decide +kernel
theorem dL_law_1495 : decode cL_law 1495 = .ok (.iload 4, 2) := by decide +kernel
theorem dL_law_1497 : decode cL_law 1497 = .ok (.iconst 1, 1) := by decide +kernel
theorem dL_law_1498 : decode cL_law 1498 = .ok (.iadd, 1) := by decide +kernel
theorem dL_law_1499 : decode cL_law 1499 = .ok (.iaload, 1) := by decide +kernel
theorem dL_law_1500 : decode cL_law 1500 = .ok (.aload_n 0, 1) := by decide +kernel
theorem dL_law_1501 : decode cL_law 1501 = .ok (.iload 4, 2) := by decide +kernel
theorem dL_law_1503 : decode cL_law 1503 = .ok (.iconst 2, 1) := by decide +kernel
theorem dL_law_1504 : decode cL_law 1504 = .ok (.iadd, 1) := by decide +kernel
theorem dL_law_1505 : decode cL_law 1505 = .ok (.iaload, 1) := by decide +kernel
theorem dL_law_1506 : decode cL_law 1506 = .ok (.invokevirtual 204, 3) := by decide +kernel
theorem dL_law_1509 : decode cL_law 1509 = .ok (.istore 6, 2) := by decide +kernel
theorem dL_law_1511 : decode cL_law 1511 = .ok (.aload_n 2, 1) := by decide +kernel
theorem dL_law_1512 : decode cL_law 1512 = .ok (.invokevirtual 93, 3) := by decide +kernel
theorem dL_law_1515 : decode cL_law 1515 = .ok (.iload 5, 2) := by decide +kernel
theorem dL_law_1517 : decode cL_law 1517 = .ok (.if_icmp .eq 5, 3) := by decide +kernel
theorem dL_law_1520 : decode cL_law 1520 = .ok (.iconst 0, 1) := by decide +kernel
theorem dL_law_1521 : decode cL_law 1521 = .ok (.ireturn, 1) := by decide +kernel
theorem dL_law_1522 : decode cL_law 1522 = .ok (.iload 5, 2) := by decide +kernel
theorem dL_law_1524 : decode cL_law 1524 = .ok (.ifCond .ne 15, 3) := by decide +kernel
theorem dL_law_1527 : decode cL_law 1527 = .ok (.aload_n 3, 1) := by decide +kernel
theorem dL_law_1528 : decode cL_law 1528 = .ok (.iconst 0, 1) := by decide +kernel
theorem dL_law_1529 : decode cL_law 1529 = .ok (.laload, 1) := by decide +kernel
theorem dL_law_1530 : decode cL_law 1530 = .ok (.iload 6, 2) := by decide +kernel
theorem dL_law_1532 : decode cL_law 1532 = .ok (.i2l, 1) := by decide +kernel
theorem dL_law_1533 : decode cL_law 1533 = .ok (.lcmp, 1) := by decide +kernel
theorem dL_law_1534 : decode cL_law 1534 = .ok (.ifCond .eq 5, 3) := by decide +kernel
theorem dL_law_1537 : decode cL_law 1537 = .ok (.iconst 0, 1) := by decide +kernel
theorem dL_law_1538 : decode cL_law 1538 = .ok (.ireturn, 1) := by decide +kernel
theorem dL_law_1539 : decode cL_law 1539 = .ok (.goto 127, 3) := by decide +kernel
theorem dL_law_1542 : decode cL_law 1542 = .ok (.aload_n 1, 1) := by decide +kernel
theorem dL_law_1543 : decode cL_law 1543 = .ok (.aload_n 0, 1) := by decide +kernel
theorem dL_law_1544 : decode cL_law 1544 = .ok (.iload 4, 2) := by decide +kernel
theorem dL_law_1546 : decode cL_law 1546 = .ok (.iconst 1, 1) := by decide +kernel
theorem dL_law_1547 : decode cL_law 1547 = .ok (.iadd, 1) := by decide +kernel
theorem dL_law_1548 : decode cL_law 1548 = .ok (.iaload, 1) := by decide +kernel
theorem dL_law_1549 : decode cL_law 1549 = .ok (.aload_n 3, 1) := by decide +kernel
theorem dL_law_1550 : decode cL_law 1550 = .ok (.invokestatic 205, 3) := by decide +kernel
theorem dL_law_1553 : decode cL_law 1553 = .ok (.istore 5, 2) := by decide +kernel
theorem dL_law_1555 : decode cL_law 1555 = .ok (.aload_n 2, 1) := by decide +kernel
theorem dL_law_1556 : decode cL_law 1556 = .ok (.aload_n 0, 1) := by decide +kernel
theorem dL_law_1557 : decode cL_law 1557 = .ok (.iload 4, 2) := by decide +kernel
theorem dL_law_1559 : decode cL_law 1559 = .ok (.iconst 1, 1) := by decide +kernel
theorem dL_law_1560 : decode cL_law 1560 = .ok (.iadd, 1) := by decide +kernel
theorem dL_law_1561 : decode cL_law 1561 = .ok (.iaload, 1) := by decide +kernel
theorem dL_law_1562 : decode cL_law 1562 = .ok (.invokevirtual 207, 3) := by decide +kernel
theorem dL_law_1565 : decode cL_law 1565 = .ok (.istore 6, 2) := by decide +kernel
theorem dL_law_1567 : decode cL_law 1567 = .ok (.aload_n 2, 1) := by decide +kernel
theorem dL_law_1568 : decode cL_law 1568 = .ok (.invokevirtual 93, 3) := by decide +kernel
theorem dL_law_1571 : decode cL_law 1571 = .ok (.iload 5, 2) := by decide +kernel
theorem dL_law_1573 : decode cL_law 1573 = .ok (.if_icmp .eq 5, 3) := by decide +kernel
theorem dL_law_1576 : decode cL_law 1576 = .ok (.iconst 0, 1) := by decide +kernel
theorem dL_law_1577 : decode cL_law 1577 = .ok (.ireturn, 1) := by decide +kernel
theorem dL_law_1578 : decode cL_law 1578 = .ok (.iload 5, 2) := by decide +kernel
theorem dL_law_1580 : decode cL_law 1580 = .ok (.ifCond .ne 15, 3) := by decide +kernel
theorem dL_law_1583 : decode cL_law 1583 = .ok (.aload_n 3, 1) := by decide +kernel
theorem dL_law_1584 : decode cL_law 1584 = .ok (.iconst 0, 1) := by decide +kernel
theorem dL_law_1585 : decode cL_law 1585 = .ok (.laload, 1) := by decide +kernel
theorem dL_law_1586 : decode cL_law 1586 = .ok (.iload 6, 2) := by decide +kernel
theorem dL_law_1588 : decode cL_law 1588 = .ok (.i2l, 1) := by decide +kernel
theorem dL_law_1589 : decode cL_law 1589 = .ok (.lcmp, 1) := by decide +kernel
theorem dL_law_1590 : decode cL_law 1590 = .ok (.ifCond .eq 5, 3) := by decide +kernel
theorem dL_law_1593 : decode cL_law 1593 = .ok (.iconst 0, 1) := by decide +kernel
theorem dL_law_1594 : decode cL_law 1594 = .ok (.ireturn, 1) := by decide +kernel
theorem dL_law_1595 : decode cL_law 1595 = .ok (.goto 71, 3) := by decide +kernel
theorem dL_law_1598 : decode cL_law 1598 = .ok (.aload_n 1, 1) := by decide +kernel
theorem dL_law_1599 : decode cL_law 1599 = .ok (.invokevirtual 208, 3) := by decide +kernel
theorem dL_law_1602 : decode cL_law 1602 = .ok (.aload_n 2, 1) := by decide +kernel
theorem dL_law_1603 : decode cL_law 1603 = .ok (.invokevirtual 211, 3) := by decide +kernel
theorem dL_law_1606 : decode cL_law 1606 = .ok (.if_icmp .eq 60, 3) := by decide +kernel
theorem dL_law_1609 : decode cL_law 1609 = .ok (.iconst 0, 1) := by decide +kernel
theorem dL_law_1610 : decode cL_law 1610 = .ok (.ireturn, 1) := by decide +kernel
theorem dL_law_1611 : decode cL_law 1611 = .ok (.aload_n 1, 1) := by decide +kernel
theorem dL_law_1612 : decode cL_law 1612 = .ok (.invokevirtual 212, 3) := by decide +kernel
theorem dL_law_1615 : decode cL_law 1615 = .ok (.dstore 5, 2) := by decide +kernel
theorem dL_law_1617 : decode cL_law 1617 = .ok (.aload_n 2, 1) := by decide +kernel
theorem dL_law_1618 : decode cL_law 1618 = .ok (.invokevirtual 216, 3) := by decide +kernel
theorem dL_law_1621 : decode cL_law 1621 = .ok (.dstore 7, 2) := by decide +kernel
theorem dL_law_1623 : decode cL_law 1623 = .ok (.dload 5, 2) := by decide +kernel
theorem dL_law_1625 : decode cL_law 1625 = .ok (.dload 7, 2) := by decide +kernel
theorem dL_law_1627 : decode cL_law 1627 = .ok (.dcmp .l, 1) := by decide +kernel
theorem dL_law_1628 : decode cL_law 1628 = .ok (.ifCond .eq 21, 3) := by decide +kernel
theorem dL_law_1631 : decode cL_law 1631 = .ok (.dload 5, 2) := by decide +kernel
theorem dL_law_1633 : decode cL_law 1633 = .ok (.dload 5, 2) := by decide +kernel
theorem dL_law_1635 : decode cL_law 1635 = .ok (.dcmp .l, 1) := by decide +kernel
theorem dL_law_1636 : decode cL_law 1636 = .ok (.ifCond .eq 11, 3) := by decide +kernel
theorem dL_law_1639 : decode cL_law 1639 = .ok (.dload 7, 2) := by decide +kernel
theorem dL_law_1641 : decode cL_law 1641 = .ok (.dload 7, 2) := by decide +kernel
theorem dL_law_1643 : decode cL_law 1643 = .ok (.dcmp .l, 1) := by decide +kernel
theorem dL_law_1644 : decode cL_law 1644 = .ok (.ifCond .ne 5, 3) := by decide +kernel
theorem dL_law_1647 : decode cL_law 1647 = .ok (.iconst 0, 1) := by decide +kernel
theorem dL_law_1648 : decode cL_law 1648 = .ok (.ireturn, 1) := by decide +kernel
theorem dL_law_1649 : decode cL_law 1649 = .ok (.goto 17, 3) := by decide +kernel
theorem dL_law_1652 : decode cL_law 1652 = .ok (.aload_n 1, 1) := by decide +kernel
theorem dL_law_1653 : decode cL_law 1653 = .ok (.invokevirtual 217, 3) := by decide +kernel
theorem dL_law_1656 : decode cL_law 1656 = .ok (.aload_n 2, 1) := by decide +kernel
theorem dL_law_1657 : decode cL_law 1657 = .ok (.invokevirtual 220, 3) := by decide +kernel
theorem dL_law_1660 : decode cL_law 1660 = .ok (.lcmp, 1) := by decide +kernel
theorem dL_law_1661 : decode cL_law 1661 = .ok (.ifCond .eq 5, 3) := by decide +kernel
theorem dL_law_1664 : decode cL_law 1664 = .ok (.iconst 0, 1) := by decide +kernel
theorem dL_law_1665 : decode cL_law 1665 = .ok (.ireturn, 1) := by decide +kernel
theorem dL_law_1666 : decode cL_law 1666 = .ok (.iinc 4 4, 3) := by decide +kernel
theorem dL_law_1669 : decode cL_law 1669 = .ok (.goto (-1646), 3) := by decide +kernel
theorem dL_law_1672 : decode cL_law 1672 = .ok (.iconst 1, 1) := by decide +kernel
theorem dL_law_1673 : decode cL_law 1673 = .ok (.ireturn, 1) := by decide +kernel
end
section
/-! the words of the tables that methods need, one by one: w ∈ wA -/
def wA : List Cond := lw_tbl.filter goodWord
theorem wA_ts {args : Array Value} {s : State} (h : ∀ w ∈ lw_tbl, w.before args s = true) : ∀ w ∈ wA, w.before args s = true := fun w hw => h w (List.mem_filter.mp hw).1
theorem gA : GoodIn wA wA := fun w h => ⟨h, good_of_word (List.mem_filter.mp h).2⟩
theorem taP {w : Cond} (i : Nat) (h : (k2_sels lw_privs)[i]? = some w) (g : goodWord w = true) : w ∈ wA := List.mem_filter.mpr ⟨List.mem_append_left _ (List.mem_of_getElem? h), g⟩
theorem ta1 {w : Cond} (i : Nat) (h : tables_1_1[i]? = some w) (g : goodWord w = true) : w ∈ wA := List.mem_filter.mpr ⟨List.mem_append_right _ (List.mem_append_left _ (List.mem_of_getElem? h)), g⟩
theorem ta2 {w : Cond} (i : Nat) (h : tables_1_2[i]? = some w) (g : goodWord w = true) : w ∈ wA := List.mem_filter.mpr ⟨List.mem_append_right _ (List.mem_append_right _ (List.mem_append_left _ (List.mem_of_getElem? h))), g⟩
theorem ta3 {w : Cond} (i : Nat) (h : tables_1_3[i]? = some w) (g : goodWord w = true) : w ∈ wA := List.mem_filter.mpr ⟨List.mem_append_right _ (List.mem_append_right _ (List.mem_append_right _ (List.mem_append_left _ (List.mem_of_getElem? h)))), g⟩
theorem ta4 {w : Cond} (i : Nat) (h : tables_1_4[i]? = some w) (g : goodWord w = true) : w ∈ wA := List.mem_filter.mpr ⟨List.mem_append_right _ (List.mem_append_right _ (List.mem_append_right _ (List.mem_append_right _ (List.mem_of_getElem? h)))), g⟩
theorem kc_RL_8 : Cond.classLink RL 8 RX0 ∈ wA := ta1 10 rfl rfl
theorem kb_RX0 : Cond.instantiable RX0 11 ∈ wA := ta1 11 rfl rfl
theorem kn_RX0 : Cond.initialized RX0 ∈ wA := ta1 1 rfl rfl
theorem kc_RL_84 : Cond.classLink RL 84 RX1 ∈ wA := ta3 21 rfl rfl
theorem kb_RX1 : Cond.instantiable RX1 11 ∈ wA := ta3 22 rfl rfl
theorem kn_RX1 : Cond.initialized RX1 ∈ wA := ta1 2 rfl rfl
theorem ka_long : Cond.arrayClass .long ∈ wA := ta4 104 rfl rfl
theorem kl_RL_83 : Cond.methodLink RL 83 yX0_init ∈ wA := ta1 12 rfl rfl
theorem ki_yX0_init : Cond.instanceMethod yX0_init ∈ wA := ta1 13 rfl rfl
theorem kd_yX0_init : Cond.code yX0_init cX0_init 2 none ∈ wA := ta1 14 rfl rfl
theorem kl_RX0_1 : Cond.methodLink RX0 1 objectInit ∈ wA := ta1 15 rfl rfl
theorem ki_objectInit : Cond.instanceMethod objectInit ∈ wA := ta1 16 rfl rfl
theorem kd_objectInit : Cond.code objectInit ⟨#[0xb1]⟩ 1 none ∈ wA := ta1 17 rfl rfl
theorem ka_int : Cond.arrayClass .int ∈ wA := ta1 52 rfl rfl
theorem kf_RX0_9 : Cond.fieldLink RX0 9 "MapSongs" "turns" "[I" ∈ wA := ta1 18 rfl rfl
theorem kf_RX0_13 : Cond.fieldLink RX0 13 "MapSongs" "lengths" "[I" ∈ wA := ta1 19 rfl rfl
theorem kf_RX0_16 : Cond.fieldLink RX0 16 "MapSongs" "landmarks" "[I" ∈ wA := ta1 20 rfl rfl
theorem ka_boolean : Cond.arrayClass .boolean ∈ wA := ta1 53 rfl rfl
theorem kf_RX0_19 : Cond.fieldLink RX0 19 "MapSongs" "marked" "[Z" ∈ wA := ta1 21 rfl rfl
theorem kf_RX0_23 : Cond.fieldLink RX0 23 "MapSongs" "words" "[I" ∈ wA := ta1 22 rfl rfl
theorem kf_RX0_26 : Cond.fieldLink RX0 26 "MapSongs" "headings" "[I" ∈ wA := ta1 25 rfl rfl
theorem kf_RX0_29 : Cond.fieldLink RX0 29 "MapSongs" "xs" "[I" ∈ wA := ta1 26 rfl rfl
theorem kf_RX0_32 : Cond.fieldLink RX0 32 "MapSongs" "ys" "[I" ∈ wA := ta1 27 rfl rfl
theorem kf_RX0_35 : Cond.fieldLink RX0 35 "MapSongs" "notes" "[I" ∈ wA := ta1 28 rfl rfl
theorem kf_RX0_38 : Cond.fieldLink RX0 38 "MapSongs" "songStep" "I" ∈ wA := ta1 24 rfl rfl
theorem kl_RL_86 : Cond.methodLink RL 86 yX1_init ∈ wA := ta3 23 rfl rfl
theorem ki_yX1_init : Cond.instanceMethod yX1_init ∈ wA := ta3 24 rfl rfl
theorem kd_yX1_init : Cond.code yX1_init cX1_init 1 none ∈ wA := ta3 25 rfl rfl
theorem kl_RX1_1 : Cond.methodLink RX1 1 objectInit ∈ wA := ta3 26 rfl rfl
theorem kf_RX1_7 : Cond.fieldLink RX1 7 "MapSongsModel" "step" "I" ∈ wA := ta3 29 rfl rfl
theorem kf_RX1_13 : Cond.fieldLink RX1 13 "MapSongsModel" "turn" "[I" ∈ wA := ta3 30 rfl rfl
theorem kf_RX1_17 : Cond.fieldLink RX1 17 "MapSongsModel" "length" "[I" ∈ wA := ta3 31 rfl rfl
theorem kf_RX1_20 : Cond.fieldLink RX1 20 "MapSongsModel" "mark" "[I" ∈ wA := ta3 32 rfl rfl
theorem kf_RX1_23 : Cond.fieldLink RX1 23 "MapSongsModel" "word" "[I" ∈ wA := ta3 33 rfl rfl
theorem kf_RX1_26 : Cond.fieldLink RX1 26 "MapSongsModel" "note" "[I" ∈ wA := ta3 35 rfl rfl
theorem kf_RX1_29 : Cond.fieldLink RX1 29 "MapSongsModel" "x" "[I" ∈ wA := ta3 36 rfl rfl
theorem kf_RX1_32 : Cond.fieldLink RX1 32 "MapSongsModel" "y" "[I" ∈ wA := ta3 37 rfl rfl
theorem kl_RL_87 : Cond.methodLink RL 87 yL_addLeg ∈ wA := ta2 76 rfl rfl
theorem ks_yL_addLeg : Cond.static yL_addLeg ∈ wA := ta2 77 rfl rfl
theorem kn_RL : Cond.initialized RL ∈ wA := ta1 0 rfl rfl
theorem kd_yL_addLeg : Cond.codeWith yL_addLeg cL_addLeg 6 (some .int) [(0, 12, 15, 13), (0, 12, 19, 15)] ∈ wA := ta2 78 rfl rfl
theorem kc_RL_13 : Cond.classLink RL 13 "java/lang/IllegalArgumentException" ∈ wA := ta2 79 rfl rfl
theorem kc_RL_15 : Cond.classLink RL 15 "java/lang/IllegalStateException" ∈ wA := ta2 80 rfl rfl
theorem kl_RL_7 : Cond.methodLink RL 7 yX0_addLeg ∈ wA := ta2 81 rfl rfl
theorem ki_yX0_addLeg : Cond.instanceMethod yX0_addLeg ∈ wA := ta2 82 rfl rfl
theorem kz_yX0_addLeg : Cond.selects RX0 yX0_addLeg yX0_addLeg ∈ wA := ta2 83 rfl rfl
theorem kd_yX0_addLeg : Cond.code yX0_addLeg cX0_addLeg 5 (some .int) ∈ wA := ta2 84 rfl rfl
theorem kc_RX0_46 : Cond.classLink RX0 46 "java/lang/IllegalArgumentException" ∈ wA := ta2 88 rfl rfl
theorem kn_IllegalArgumentException : Cond.initialized "java/lang/IllegalArgumentException" ∈ wA := ta1 6 rfl rfl
theorem kc_RX0_62 : Cond.classLink RX0 62 "java/lang/IllegalStateException" ∈ wA := ta2 105 rfl rfl
theorem kn_IllegalStateException : Cond.initialized "java/lang/IllegalStateException" ∈ wA := ta1 7 rfl rfl
theorem kf_RX0_59 : Cond.fieldLink RX0 59 "MapSongs" "legCount" "I" ∈ wA := ta1 23 rfl rfl
theorem kl_RX0_42 : Cond.methodLink RX0 42 yX0_checkTurn ∈ wA := ta2 85 rfl rfl
theorem ks_yX0_checkTurn : Cond.static yX0_checkTurn ∈ wA := ta2 86 rfl rfl
theorem kd_yX0_checkTurn : Cond.code yX0_checkTurn cX0_checkTurn 1 none ∈ wA := ta2 87 rfl rfl
theorem kl_RX0_53 : Cond.methodLink RX0 53 yX0_isLandmark ∈ wA := ta2 68 rfl rfl
theorem ks_yX0_isLandmark : Cond.static yX0_isLandmark ∈ wA := ta2 69 rfl rfl
theorem kd_yX0_isLandmark : Cond.code yX0_isLandmark cX0_isLandmark 1 (some .boolean) ∈ wA := ta2 70 rfl rfl
theorem kl_RX0_67 : Cond.methodLink RX0 67 yX0_follow ∈ wA := ta2 121 rfl rfl
theorem ki_yX0_follow : Cond.instanceMethod yX0_follow ∈ wA := ta2 123 rfl rfl
theorem kz_yX0_follow : Cond.selects RX0 yX0_follow yX0_follow ∈ wA := taP 11 rfl rfl
theorem kd_yX0_follow : Cond.code yX0_follow cX0_follow 4 none ∈ wA := ta2 124 rfl rfl
theorem kf_RX0_221 : Cond.fieldLink RX0 221 "MapSongs" "STEP_EAST" "[I" ∈ wA := ta2 132 rfl rfl
theorem kf_RX0_224 : Cond.fieldLink RX0 224 "MapSongs" "STEP_NORTH" "[I" ∈ wA := ta2 134 rfl rfl
theorem kl_RX0_215 : Cond.methodLink RX0 215 yX0_headingAhead ∈ wA := ta2 125 rfl rfl
theorem ki_yX0_headingAhead : Cond.instanceMethod yX0_headingAhead ∈ wA := ta2 127 rfl rfl
theorem kz_yX0_headingAhead : Cond.selects RX0 yX0_headingAhead yX0_headingAhead ∈ wA := taP 12 rfl rfl
theorem kd_yX0_headingAhead : Cond.code yX0_headingAhead cX0_headingAhead 2 (some .int) ∈ wA := ta2 128 rfl rfl
theorem kl_RX0_218 : Cond.methodLink RX0 218 yJ9_floorMod_7cf53 ∈ wA := ta2 129 rfl rfl
theorem ks_yJ9_floorMod_7cf53 : Cond.static yJ9_floorMod_7cf53 ∈ wA := ta2 130 rfl rfl
theorem kn_RJ9 : Cond.initialized RJ9 ∈ wA := ta1 8 rfl rfl
theorem kd_yJ9_floorMod_7cf53 : Cond.code yJ9_floorMod_7cf53 cJ9_floorMod_7cf53 3 (some .int) ∈ wA := ta2 131 rfl rfl
theorem kl_RX0_88 : Cond.methodLink RX0 88 yX0_xAhead ∈ wA := ta1 66 rfl rfl
theorem ki_yX0_xAhead : Cond.instanceMethod yX0_xAhead ∈ wA := ta1 68 rfl rfl
theorem kz_yX0_xAhead : Cond.selects RX0 yX0_xAhead yX0_xAhead ∈ wA := taP 0 rfl rfl
theorem kd_yX0_xAhead : Cond.code yX0_xAhead cX0_xAhead 2 (some .int) ∈ wA := ta1 69 rfl rfl
theorem kl_RX0_92 : Cond.methodLink RX0 92 yX0_yAhead ∈ wA := ta1 74 rfl rfl
theorem ki_yX0_yAhead : Cond.instanceMethod yX0_yAhead ∈ wA := ta1 76 rfl rfl
theorem kz_yX0_yAhead : Cond.selects RX0 yX0_yAhead yX0_yAhead ∈ wA := taP 1 rfl rfl
theorem kd_yX0_yAhead : Cond.code yX0_yAhead cX0_yAhead 2 (some .int) ∈ wA := ta1 77 rfl rfl
theorem kl_RX0_114 : Cond.methodLink RX0 114 yX0_noteAhead ∈ wA := ta1 182 rfl rfl
theorem ki_yX0_noteAhead : Cond.instanceMethod yX0_noteAhead ∈ wA := ta1 184 rfl rfl
theorem kz_yX0_noteAhead : Cond.selects RX0 yX0_noteAhead yX0_noteAhead ∈ wA := taP 5 rfl rfl
theorem kd_yX0_noteAhead : Cond.code yX0_noteAhead cX0_noteAhead 2 (some .int) ∈ wA := ta1 185 rfl rfl
theorem kl_RX0_227 : Cond.methodLink RX0 227 yX0_noteBehind ∈ wA := ta1 211 rfl rfl
theorem ks_yX0_noteBehind : Cond.static yX0_noteBehind ∈ wA := ta1 212 rfl rfl
theorem kd_yX0_noteBehind : Cond.code yX0_noteBehind cX0_noteBehind 3 (some .int) ∈ wA := ta1 213 rfl rfl
theorem kl_RX0_117 : Cond.methodLink RX0 117 yX0_leavesVoice ∈ wA := ta1 186 rfl rfl
theorem ks_yX0_leavesVoice : Cond.static yX0_leavesVoice ∈ wA := ta1 187 rfl rfl
theorem kd_yX0_leavesVoice : Cond.code yX0_leavesVoice cX0_leavesVoice 1 (some .boolean) ∈ wA := ta1 188 rfl rfl
theorem kl_RL_92 : Cond.methodLink RL 92 yX1_addLeg ∈ wA := ta3 65 rfl rfl
theorem ki_yX1_addLeg : Cond.instanceMethod yX1_addLeg ∈ wA := ta3 66 rfl rfl
theorem kz_yX1_addLeg : Cond.selects RX1 yX1_addLeg yX1_addLeg ∈ wA := ta3 67 rfl rfl
theorem kd_yX1_addLeg : Cond.code yX1_addLeg cX1_addLeg 4 (some .int) ∈ wA := ta3 68 rfl rfl
theorem kf_RX1_35 : Cond.fieldLink RX1 35 "MapSongsModel" "thrown" "I" ∈ wA := ta3 27 rfl rfl
theorem kf_RX1_38 : Cond.fieldLink RX1 38 "MapSongsModel" "legs" "I" ∈ wA := ta3 28 rfl rfl
theorem kl_RX1_41 : Cond.methodLink RX1 41 yX1_isIn ∈ wA := ta3 69 rfl rfl
theorem ks_yX1_isIn : Cond.static yX1_isIn ∈ wA := ta3 70 rfl rfl
theorem kd_yX1_isIn : Cond.code yX1_isIn cX1_isIn 3 (some .boolean) ∈ wA := ta3 71 rfl rfl
theorem kl_RX1_109 : Cond.methodLink RX1 109 yX1_isKind ∈ wA := ta3 72 rfl rfl
theorem ks_yX1_isKind : Cond.static yX1_isKind ∈ wA := ta3 73 rfl rfl
theorem kd_yX1_isKind : Cond.code yX1_isKind cX1_isKind 1 (some .boolean) ∈ wA := ta3 74 rfl rfl
theorem kl_RX1_112 : Cond.methodLink RX1 112 yX1_no ∈ wA := ta3 75 rfl rfl
theorem ki_yX1_no : Cond.instanceMethod yX1_no ∈ wA := ta3 77 rfl rfl
theorem kz_yX1_no : Cond.selects RX1 yX1_no yX1_no ∈ wA := taP 15 rfl rfl
theorem kd_yX1_no : Cond.code yX1_no cX1_no 2 (some .int) ∈ wA := ta3 78 rfl rfl
theorem kl_RL_93 : Cond.methodLink RL 93 yX1_thrown ∈ wA := ta3 61 rfl rfl
theorem ki_yX1_thrown : Cond.instanceMethod yX1_thrown ∈ wA := ta3 62 rfl rfl
theorem kz_yX1_thrown : Cond.selects RX1 yX1_thrown yX1_thrown ∈ wA := ta3 63 rfl rfl
theorem kd_yX1_thrown : Cond.code yX1_thrown cX1_thrown 1 (some .int) ∈ wA := ta3 64 rfl rfl
theorem kl_RL_96 : Cond.methodLink RL 96 yL_strikeLeg ∈ wA := ta2 136 rfl rfl
theorem ks_yL_strikeLeg : Cond.static yL_strikeLeg ∈ wA := ta2 137 rfl rfl
theorem kd_yL_strikeLeg : Cond.codeWith yL_strikeLeg cL_strikeLeg 3 (some .int) [(0, 8, 11, 15)] ∈ wA := ta2 138 rfl rfl
theorem kl_RL_17 : Cond.methodLink RL 17 yX0_strikeLeg ∈ wA := ta2 139 rfl rfl
theorem ki_yX0_strikeLeg : Cond.instanceMethod yX0_strikeLeg ∈ wA := ta2 140 rfl rfl
theorem kz_yX0_strikeLeg : Cond.selects RX0 yX0_strikeLeg yX0_strikeLeg ∈ wA := ta2 141 rfl rfl
theorem kd_yX0_strikeLeg : Cond.code yX0_strikeLeg cX0_strikeLeg 1 (some .int) ∈ wA := ta2 142 rfl rfl
theorem kl_RL_99 : Cond.methodLink RL 99 yX1_strikeLeg ∈ wA := ta3 79 rfl rfl
theorem ki_yX1_strikeLeg : Cond.instanceMethod yX1_strikeLeg ∈ wA := ta3 80 rfl rfl
theorem kz_yX1_strikeLeg : Cond.selects RX1 yX1_strikeLeg yX1_strikeLeg ∈ wA := ta3 81 rfl rfl
theorem kd_yX1_strikeLeg : Cond.code yX1_strikeLeg cX1_strikeLeg 1 (some .int) ∈ wA := ta3 82 rfl rfl
theorem kf_RX1_85 : Cond.fieldLink RX1 85 "MapSongsModel" "mended" "I" ∈ wA := ta3 34 rfl rfl
theorem kl_RL_100 : Cond.methodLink RL 100 yL_bend ∈ wA := ta2 144 rfl rfl
theorem ks_yL_bend : Cond.static yL_bend ∈ wA := ta2 145 rfl rfl
theorem kd_yL_bend : Cond.codeWith yL_bend cL_bend 5 (some .int) [(0, 10, 13, 25), (0, 10, 17, 13)] ∈ wA := ta2 146 rfl rfl
theorem kc_RL_25 : Cond.classLink RL 25 "java/lang/IndexOutOfBoundsException" ∈ wA := ta2 147 rfl rfl
theorem kl_RL_21 : Cond.methodLink RL 21 yX0_bend ∈ wA := ta2 148 rfl rfl
theorem ki_yX0_bend : Cond.instanceMethod yX0_bend ∈ wA := ta2 149 rfl rfl
theorem kz_yX0_bend : Cond.selects RX0 yX0_bend yX0_bend ∈ wA := ta2 150 rfl rfl
theorem kd_yX0_bend : Cond.code yX0_bend cX0_bend 4 (some .int) ∈ wA := ta2 151 rfl rfl
theorem kl_RX0_72 : Cond.methodLink RX0 72 yX0_checkLeg ∈ wA := ta1 110 rfl rfl
theorem ki_yX0_checkLeg : Cond.instanceMethod yX0_checkLeg ∈ wA := ta1 112 rfl rfl
theorem kz_yX0_checkLeg : Cond.selects RX0 yX0_checkLeg yX0_checkLeg ∈ wA := taP 3 rfl rfl
theorem kd_yX0_checkLeg : Cond.code yX0_checkLeg cX0_checkLeg 2 none ∈ wA := ta1 113 rfl rfl
theorem kc_RX0_210 : Cond.classLink RX0 210 "java/lang/IndexOutOfBoundsException" ∈ wA := ta1 114 rfl rfl
theorem kn_IndexOutOfBoundsException : Cond.initialized "java/lang/IndexOutOfBoundsException" ∈ wA := ta1 9 rfl rfl
theorem kl_RX0_75 : Cond.methodLink RX0 75 yX0_dropMarks ∈ wA := ta2 152 rfl rfl
theorem ki_yX0_dropMarks : Cond.instanceMethod yX0_dropMarks ∈ wA := ta2 154 rfl rfl
theorem kz_yX0_dropMarks : Cond.selects RX0 yX0_dropMarks yX0_dropMarks ∈ wA := taP 13 rfl rfl
theorem kd_yX0_dropMarks : Cond.code yX0_dropMarks cX0_dropMarks 2 none ∈ wA := ta2 155 rfl rfl
theorem kl_RL_103 : Cond.methodLink RL 103 yX1_bend ∈ wA := ta3 83 rfl rfl
theorem ki_yX1_bend : Cond.instanceMethod yX1_bend ∈ wA := ta3 84 rfl rfl
theorem kz_yX1_bend : Cond.selects RX1 yX1_bend yX1_bend ∈ wA := ta3 85 rfl rfl
theorem kd_yX1_bend : Cond.code yX1_bend cX1_bend 4 (some .int) ∈ wA := ta3 86 rfl rfl
theorem kl_RX1_115 : Cond.methodLink RX1 115 yX1_isLeg ∈ wA := ta3 87 rfl rfl
theorem ki_yX1_isLeg : Cond.instanceMethod yX1_isLeg ∈ wA := ta3 89 rfl rfl
theorem kz_yX1_isLeg : Cond.selects RX1 yX1_isLeg yX1_isLeg ∈ wA := taP 16 rfl rfl
theorem kd_yX1_isLeg : Cond.code yX1_isLeg cX1_isLeg 2 (some .boolean) ∈ wA := ta3 90 rfl rfl
theorem kl_RL_104 : Cond.methodLink RL 104 yL_setWord ∈ wA := ta2 156 rfl rfl
theorem ks_yL_setWord : Cond.static yL_setWord ∈ wA := ta2 157 rfl rfl
theorem kd_yL_setWord : Cond.codeWith yL_setWord cL_setWord 5 (some .int) [(0, 10, 13, 25), (0, 10, 17, 13)] ∈ wA := ta2 158 rfl rfl
theorem kl_RL_27 : Cond.methodLink RL 27 yX0_setWord ∈ wA := ta2 159 rfl rfl
theorem ki_yX0_setWord : Cond.instanceMethod yX0_setWord ∈ wA := ta2 160 rfl rfl
theorem kz_yX0_setWord : Cond.selects RX0 yX0_setWord yX0_setWord ∈ wA := ta2 161 rfl rfl
theorem kd_yX0_setWord : Cond.code yX0_setWord cX0_setWord 4 (some .int) ∈ wA := ta2 162 rfl rfl
theorem kl_RX0_78 : Cond.methodLink RX0 78 yX0_checkLandmark ∈ wA := ta2 65 rfl rfl
theorem ks_yX0_checkLandmark : Cond.static yX0_checkLandmark ∈ wA := ta2 66 rfl rfl
theorem kd_yX0_checkLandmark : Cond.code yX0_checkLandmark cX0_checkLandmark 1 none ∈ wA := ta2 67 rfl rfl
theorem kl_RX0_81 : Cond.methodLink RX0 81 yX0_isWord ∈ wA := ta2 163 rfl rfl
theorem ks_yX0_isWord : Cond.static yX0_isWord ∈ wA := ta2 164 rfl rfl
theorem kd_yX0_isWord : Cond.code yX0_isWord cX0_isWord 1 (some .boolean) ∈ wA := ta2 165 rfl rfl
theorem kl_RL_106 : Cond.methodLink RL 106 yX1_setWord ∈ wA := ta3 91 rfl rfl
theorem ki_yX1_setWord : Cond.instanceMethod yX1_setWord ∈ wA := ta3 92 rfl rfl
theorem kz_yX1_setWord : Cond.selects RX1 yX1_setWord yX1_setWord ∈ wA := ta3 93 rfl rfl
theorem kd_yX1_setWord : Cond.code yX1_setWord cX1_setWord 4 (some .int) ∈ wA := ta3 94 rfl rfl
theorem kl_RL_107 : Cond.methodLink RL 107 yL_setStep ∈ wA := ta2 167 rfl rfl
theorem ks_yL_setStep : Cond.static yL_setStep ∈ wA := ta2 168 rfl rfl
theorem kd_yL_setStep : Cond.codeWith yL_setStep cL_setStep 4 (some .int) [(0, 9, 12, 13)] ∈ wA := ta2 169 rfl rfl
theorem kl_RL_30 : Cond.methodLink RL 30 yX0_setStep ∈ wA := ta2 170 rfl rfl
theorem ki_yX0_setStep : Cond.instanceMethod yX0_setStep ∈ wA := ta2 171 rfl rfl
theorem kz_yX0_setStep : Cond.selects RX0 yX0_setStep yX0_setStep ∈ wA := ta2 172 rfl rfl
theorem kd_yX0_setStep : Cond.code yX0_setStep cX0_setStep 3 (some .int) ∈ wA := ta2 173 rfl rfl
theorem kl_RL_110 : Cond.methodLink RL 110 yX1_setStep ∈ wA := ta3 95 rfl rfl
theorem ki_yX1_setStep : Cond.instanceMethod yX1_setStep ∈ wA := ta3 96 rfl rfl
theorem kz_yX1_setStep : Cond.selects RX1 yX1_setStep yX1_setStep ∈ wA := ta3 97 rfl rfl
theorem kd_yX1_setStep : Cond.code yX1_setStep cX1_setStep 3 (some .int) ∈ wA := ta3 98 rfl rfl
theorem kl_RL_111 : Cond.methodLink RL 111 yX0_legs ∈ wA := ta1 54 rfl rfl
theorem ki_yX0_legs : Cond.instanceMethod yX0_legs ∈ wA := ta1 55 rfl rfl
theorem kz_yX0_legs : Cond.selects RX0 yX0_legs yX0_legs ∈ wA := ta1 56 rfl rfl
theorem kd_yX0_legs : Cond.code yX0_legs cX0_legs 1 (some .int) ∈ wA := ta1 57 rfl rfl
theorem kl_RL_114 : Cond.methodLink RL 114 yX1_legs ∈ wA := ta3 99 rfl rfl
theorem ki_yX1_legs : Cond.instanceMethod yX1_legs ∈ wA := ta3 100 rfl rfl
theorem kz_yX1_legs : Cond.selects RX1 yX1_legs yX1_legs ∈ wA := ta3 101 rfl rfl
theorem kd_yX1_legs : Cond.code yX1_legs cX1_legs 1 (some .int) ∈ wA := ta3 102 rfl rfl
theorem kl_RX1_118 : Cond.methodLink RX1 118 yX1_ok ∈ wA := ta3 103 rfl rfl
theorem ki_yX1_ok : Cond.instanceMethod yX1_ok ∈ wA := ta3 105 rfl rfl
theorem kz_yX1_ok : Cond.selects RX1 yX1_ok yX1_ok ∈ wA := taP 17 rfl rfl
theorem kd_yX1_ok : Cond.code yX1_ok cX1_ok 2 (some .int) ∈ wA := ta3 106 rfl rfl
theorem kl_RL_115 : Cond.methodLink RL 115 yX0_step ∈ wA := ta1 58 rfl rfl
theorem ki_yX0_step : Cond.instanceMethod yX0_step ∈ wA := ta1 59 rfl rfl
theorem kz_yX0_step : Cond.selects RX0 yX0_step yX0_step ∈ wA := ta1 60 rfl rfl
theorem kd_yX0_step : Cond.code yX0_step cX0_step 1 (some .int) ∈ wA := ta1 61 rfl rfl
theorem kl_RL_118 : Cond.methodLink RL 118 yX1_step ∈ wA := ta3 107 rfl rfl
theorem ki_yX1_step : Cond.instanceMethod yX1_step ∈ wA := ta3 108 rfl rfl
theorem kz_yX1_step : Cond.selects RX1 yX1_step yX1_step ∈ wA := ta3 109 rfl rfl
theorem kd_yX1_step : Cond.code yX1_step cX1_step 1 (some .int) ∈ wA := ta3 110 rfl rfl
theorem kl_RL_119 : Cond.methodLink RL 119 yX0_endX ∈ wA := ta1 62 rfl rfl
theorem ki_yX0_endX : Cond.instanceMethod yX0_endX ∈ wA := ta1 63 rfl rfl
theorem kz_yX0_endX : Cond.selects RX0 yX0_endX yX0_endX ∈ wA := ta1 64 rfl rfl
theorem kd_yX0_endX : Cond.code yX0_endX cX0_endX 1 (some .int) ∈ wA := ta1 65 rfl rfl
theorem kl_RL_122 : Cond.methodLink RL 122 yX1_endX ∈ wA := ta3 111 rfl rfl
theorem ki_yX1_endX : Cond.instanceMethod yX1_endX ∈ wA := ta3 112 rfl rfl
theorem kz_yX1_endX : Cond.selects RX1 yX1_endX yX1_endX ∈ wA := ta3 113 rfl rfl
theorem kd_yX1_endX : Cond.code yX1_endX cX1_endX 1 (some .int) ∈ wA := ta3 114 rfl rfl
theorem kl_RX1_121 : Cond.methodLink RX1 121 yX1_endOf ∈ wA := ta3 115 rfl rfl
theorem ki_yX1_endOf : Cond.instanceMethod yX1_endOf ∈ wA := ta3 117 rfl rfl
theorem kz_yX1_endOf : Cond.selects RX1 yX1_endOf yX1_endOf ∈ wA := taP 18 rfl rfl
theorem kd_yX1_endOf : Cond.code yX1_endOf cX1_endOf 2 (some .int) ∈ wA := ta3 118 rfl rfl
theorem kl_RX1_52 : Cond.methodLink RX1 52 yX1_walk ∈ wA := ta3 119 rfl rfl
theorem ki_yX1_walk : Cond.instanceMethod yX1_walk ∈ wA := ta3 121 rfl rfl
theorem kz_yX1_walk : Cond.selects RX1 yX1_walk yX1_walk ∈ wA := taP 19 rfl rfl
theorem kd_yX1_walk : Cond.code yX1_walk cX1_walk 2 none ∈ wA := ta3 122 rfl rfl
theorem kf_RX1_45 : Cond.fieldLink RX1 45 "MapSongsModel" "EAST" "[I" ∈ wA := ta3 123 rfl rfl
theorem kl_RX1_48 : Cond.methodLink RX1 48 yX1_heading ∈ wA := ta3 125 rfl rfl
theorem ki_yX1_heading : Cond.instanceMethod yX1_heading ∈ wA := ta3 127 rfl rfl
theorem kz_yX1_heading : Cond.selects RX1 yX1_heading yX1_heading ∈ wA := taP 20 rfl rfl
theorem kd_yX1_heading : Cond.code yX1_heading cX1_heading 4 (some .int) ∈ wA := ta3 128 rfl rfl
theorem kl_RL_123 : Cond.methodLink RL 123 yX0_endY ∈ wA := ta1 70 rfl rfl
theorem ki_yX0_endY : Cond.instanceMethod yX0_endY ∈ wA := ta1 71 rfl rfl
theorem kz_yX0_endY : Cond.selects RX0 yX0_endY yX0_endY ∈ wA := ta1 72 rfl rfl
theorem kd_yX0_endY : Cond.code yX0_endY cX0_endY 1 (some .int) ∈ wA := ta1 73 rfl rfl
theorem kl_RL_126 : Cond.methodLink RL 126 yX1_endY ∈ wA := ta3 129 rfl rfl
theorem ki_yX1_endY : Cond.instanceMethod yX1_endY ∈ wA := ta3 130 rfl rfl
theorem kz_yX1_endY : Cond.selects RX1 yX1_endY yX1_endY ∈ wA := ta3 131 rfl rfl
theorem kd_yX1_endY : Cond.code yX1_endY cX1_endY 1 (some .int) ∈ wA := ta3 132 rfl rfl
theorem kl_RL_127 : Cond.methodLink RL 127 yX0_stepsHome ∈ wA := ta1 78 rfl rfl
theorem ki_yX0_stepsHome : Cond.instanceMethod yX0_stepsHome ∈ wA := ta1 79 rfl rfl
theorem kz_yX0_stepsHome : Cond.selects RX0 yX0_stepsHome yX0_stepsHome ∈ wA := ta1 80 rfl rfl
theorem kd_yX0_stepsHome : Cond.code yX0_stepsHome cX0_stepsHome 1 (some .int) ∈ wA := ta1 81 rfl rfl
theorem kl_RX0_99 : Cond.methodLink RX0 99 Lib.Math.abs.name ∈ wA := ta1 83 rfl rfl
theorem ks_LM_abs_name : Cond.static Lib.Math.abs.name ∈ wA := ta1 84 rfl rfl
theorem kn_Math : Cond.initialized "java/lang/Math" ∈ wA := ta1 8 rfl rfl
theorem kd_LM_abs_name : Cond.code Lib.Math.abs.name Lib.Math.abs.code 1 (some .int) ∈ wA := ta1 85 rfl rfl
theorem kl_RX0_107 : Cond.methodLink RX0 107 Lib.Math.max.name ∈ wA := ta1 87 rfl rfl
theorem ks_LM_max_name : Cond.static Lib.Math.max.name ∈ wA := ta1 88 rfl rfl
theorem kd_LM_max_name : Cond.code Lib.Math.max.name Lib.Math.max.code 2 (some .int) ∈ wA := ta1 89 rfl rfl
theorem kl_RX0_95 : Cond.methodLink RX0 95 yX0_endX ∈ wA := ta1 82 rfl rfl
theorem kl_RX0_104 : Cond.methodLink RX0 104 yX0_endY ∈ wA := ta1 86 rfl rfl
theorem kl_RL_130 : Cond.methodLink RL 130 yX1_stepsHome ∈ wA := ta3 133 rfl rfl
theorem ki_yX1_stepsHome : Cond.instanceMethod yX1_stepsHome ∈ wA := ta3 134 rfl rfl
theorem kz_yX1_stepsHome : Cond.selects RX1 yX1_stepsHome yX1_stepsHome ∈ wA := ta3 135 rfl rfl
theorem kd_yX1_stepsHome : Cond.code yX1_stepsHome cX1_stepsHome 1 (some .int) ∈ wA := ta3 136 rfl rfl
theorem kl_RX1_125 : Cond.methodLink RX1 125 yX1_home ∈ wA := ta3 137 rfl rfl
theorem ki_yX1_home : Cond.instanceMethod yX1_home ∈ wA := ta3 139 rfl rfl
theorem kz_yX1_home : Cond.selects RX1 yX1_home yX1_home ∈ wA := taP 21 rfl rfl
theorem kd_yX1_home : Cond.code yX1_home cX1_home 1 (some .int) ∈ wA := ta3 140 rfl rfl
theorem kl_RX1_55 : Cond.methodLink RX1 55 Lib.Math.abs.name ∈ wA := ta3 141 rfl rfl
theorem kl_RX1_60 : Cond.methodLink RX1 60 Lib.Math.max.name ∈ wA := ta3 142 rfl rfl
theorem kl_RL_131 : Cond.methodLink RL 131 yX0_returns ∈ wA := ta1 90 rfl rfl
theorem ki_yX0_returns : Cond.instanceMethod yX0_returns ∈ wA := ta1 91 rfl rfl
theorem kz_yX0_returns : Cond.selects RX0 yX0_returns yX0_returns ∈ wA := ta1 92 rfl rfl
theorem kd_yX0_returns : Cond.code yX0_returns cX0_returns 3 (some .int) ∈ wA := ta1 93 rfl rfl
theorem kl_RX0_111 : Cond.methodLink RX0 111 yX0_endsWhereItWas ∈ wA := ta1 94 rfl rfl
theorem ki_yX0_endsWhereItWas : Cond.instanceMethod yX0_endsWhereItWas ∈ wA := ta1 96 rfl rfl
theorem kz_yX0_endsWhereItWas : Cond.selects RX0 yX0_endsWhereItWas yX0_endsWhereItWas ∈ wA := taP 2 rfl rfl
theorem kd_yX0_endsWhereItWas : Cond.code yX0_endsWhereItWas cX0_endsWhereItWas 3 (some .boolean) ∈ wA := ta1 97 rfl rfl
theorem kl_RL_134 : Cond.methodLink RL 134 yX1_returns ∈ wA := ta3 143 rfl rfl
theorem ki_yX1_returns : Cond.instanceMethod yX1_returns ∈ wA := ta3 144 rfl rfl
theorem kz_yX1_returns : Cond.selects RX1 yX1_returns yX1_returns ∈ wA := ta3 145 rfl rfl
theorem kd_yX1_returns : Cond.code yX1_returns cX1_returns 1 (some .int) ∈ wA := ta3 146 rfl rfl
theorem kl_RX1_129 : Cond.methodLink RX1 129 yX1_back ∈ wA := ta3 147 rfl rfl
theorem ki_yX1_back : Cond.instanceMethod yX1_back ∈ wA := ta3 149 rfl rfl
theorem kz_yX1_back : Cond.selects RX1 yX1_back yX1_back ∈ wA := taP 22 rfl rfl
theorem kd_yX1_back : Cond.code yX1_back cX1_back 5 (some .int) ∈ wA := ta3 150 rfl rfl
theorem kl_RL_135 : Cond.methodLink RL 135 yL_turnOf ∈ wA := ta2 175 rfl rfl
theorem ks_yL_turnOf : Cond.static yL_turnOf ∈ wA := ta2 176 rfl rfl
theorem kd_yL_turnOf : Cond.codeWith yL_turnOf cL_turnOf 4 (some .int) [(0, 9, 12, 25)] ∈ wA := ta2 177 rfl rfl
theorem kl_RL_34 : Cond.methodLink RL 34 yX0_turnOf ∈ wA := ta2 178 rfl rfl
theorem ki_yX0_turnOf : Cond.instanceMethod yX0_turnOf ∈ wA := ta2 34 rfl rfl
theorem kz_yX0_turnOf : Cond.selects RX0 yX0_turnOf yX0_turnOf ∈ wA := ta2 35 rfl rfl
theorem kd_yX0_turnOf : Cond.code yX0_turnOf cX0_turnOf 2 (some .int) ∈ wA := ta2 36 rfl rfl
theorem kl_RL_137 : Cond.methodLink RL 137 yX1_turnOf ∈ wA := ta3 151 rfl rfl
theorem ki_yX1_turnOf : Cond.instanceMethod yX1_turnOf ∈ wA := ta3 152 rfl rfl
theorem kz_yX1_turnOf : Cond.selects RX1 yX1_turnOf yX1_turnOf ∈ wA := ta3 153 rfl rfl
theorem kd_yX1_turnOf : Cond.code yX1_turnOf cX1_turnOf 2 (some .int) ∈ wA := ta3 154 rfl rfl
theorem kl_RL_138 : Cond.methodLink RL 138 yL_headingOf ∈ wA := ta2 179 rfl rfl
theorem ks_yL_headingOf : Cond.static yL_headingOf ∈ wA := ta2 180 rfl rfl
theorem kd_yL_headingOf : Cond.codeWith yL_headingOf cL_headingOf 4 (some .int) [(0, 9, 12, 25)] ∈ wA := ta2 181 rfl rfl
theorem kl_RL_37 : Cond.methodLink RL 37 yX0_headingOf ∈ wA := ta2 182 rfl rfl
theorem ki_yX0_headingOf : Cond.instanceMethod yX0_headingOf ∈ wA := ta2 38 rfl rfl
theorem kz_yX0_headingOf : Cond.selects RX0 yX0_headingOf yX0_headingOf ∈ wA := ta2 39 rfl rfl
theorem kd_yX0_headingOf : Cond.code yX0_headingOf cX0_headingOf 2 (some .int) ∈ wA := ta2 40 rfl rfl
theorem kl_RL_140 : Cond.methodLink RL 140 yX1_headingOf ∈ wA := ta3 155 rfl rfl
theorem ki_yX1_headingOf : Cond.instanceMethod yX1_headingOf ∈ wA := ta3 156 rfl rfl
theorem kz_yX1_headingOf : Cond.selects RX1 yX1_headingOf yX1_headingOf ∈ wA := ta3 157 rfl rfl
theorem kd_yX1_headingOf : Cond.code yX1_headingOf cX1_headingOf 2 (some .int) ∈ wA := ta3 158 rfl rfl
theorem kl_RL_141 : Cond.methodLink RL 141 yL_landmarkOf ∈ wA := ta2 183 rfl rfl
theorem ks_yL_landmarkOf : Cond.static yL_landmarkOf ∈ wA := ta2 184 rfl rfl
theorem kd_yL_landmarkOf : Cond.codeWith yL_landmarkOf cL_landmarkOf 4 (some .int) [(0, 9, 12, 25)] ∈ wA := ta2 185 rfl rfl
theorem kl_RL_40 : Cond.methodLink RL 40 yX0_landmarkOf ∈ wA := ta2 186 rfl rfl
theorem ki_yX0_landmarkOf : Cond.instanceMethod yX0_landmarkOf ∈ wA := ta2 42 rfl rfl
theorem kz_yX0_landmarkOf : Cond.selects RX0 yX0_landmarkOf yX0_landmarkOf ∈ wA := ta2 43 rfl rfl
theorem kd_yX0_landmarkOf : Cond.code yX0_landmarkOf cX0_landmarkOf 2 (some .int) ∈ wA := ta2 44 rfl rfl
theorem kl_RL_143 : Cond.methodLink RL 143 yX1_landmarkOf ∈ wA := ta3 159 rfl rfl
theorem ki_yX1_landmarkOf : Cond.instanceMethod yX1_landmarkOf ∈ wA := ta3 160 rfl rfl
theorem kz_yX1_landmarkOf : Cond.selects RX1 yX1_landmarkOf yX1_landmarkOf ∈ wA := ta3 161 rfl rfl
theorem kd_yX1_landmarkOf : Cond.code yX1_landmarkOf cX1_landmarkOf 2 (some .int) ∈ wA := ta3 162 rfl rfl
theorem kl_RL_144 : Cond.methodLink RL 144 yL_noteOf ∈ wA := ta2 187 rfl rfl
theorem ks_yL_noteOf : Cond.static yL_noteOf ∈ wA := ta2 188 rfl rfl
theorem kd_yL_noteOf : Cond.codeWith yL_noteOf cL_noteOf 4 (some .int) [(0, 9, 12, 25)] ∈ wA := ta2 189 rfl rfl
theorem kl_RL_43 : Cond.methodLink RL 43 yX0_noteOf ∈ wA := ta2 190 rfl rfl
theorem ki_yX0_noteOf : Cond.instanceMethod yX0_noteOf ∈ wA := ta2 46 rfl rfl
theorem kz_yX0_noteOf : Cond.selects RX0 yX0_noteOf yX0_noteOf ∈ wA := ta2 47 rfl rfl
theorem kd_yX0_noteOf : Cond.code yX0_noteOf cX0_noteOf 2 (some .int) ∈ wA := ta2 48 rfl rfl
theorem kl_RL_146 : Cond.methodLink RL 146 yX1_noteOf ∈ wA := ta3 163 rfl rfl
theorem ki_yX1_noteOf : Cond.instanceMethod yX1_noteOf ∈ wA := ta3 164 rfl rfl
theorem kz_yX1_noteOf : Cond.selects RX1 yX1_noteOf yX1_noteOf ∈ wA := ta3 165 rfl rfl
theorem kd_yX1_noteOf : Cond.code yX1_noteOf cX1_noteOf 2 (some .int) ∈ wA := ta3 166 rfl rfl
theorem kl_RX1_132 : Cond.methodLink RX1 132 yX1_noteNow ∈ wA := ta3 167 rfl rfl
theorem ki_yX1_noteNow : Cond.instanceMethod yX1_noteNow ∈ wA := ta3 169 rfl rfl
theorem kz_yX1_noteNow : Cond.selects RX1 yX1_noteNow yX1_noteNow ∈ wA := taP 23 rfl rfl
theorem kd_yX1_noteNow : Cond.code yX1_noteNow cX1_noteNow 2 (some .int) ∈ wA := ta3 170 rfl rfl
theorem kl_RX1_68 : Cond.methodLink RX1 68 yX1_sing ∈ wA := ta3 171 rfl rfl
theorem ki_yX1_sing : Cond.instanceMethod yX1_sing ∈ wA := ta3 173 rfl rfl
theorem kz_yX1_sing : Cond.selects RX1 yX1_sing yX1_sing ∈ wA := taP 24 rfl rfl
theorem kd_yX1_sing : Cond.code yX1_sing cX1_sing 3 none ∈ wA := ta3 174 rfl rfl
theorem kl_RX1_64 : Cond.methodLink RX1 64 yX1_folds ∈ wA := ta3 175 rfl rfl
theorem ks_yX1_folds : Cond.static yX1_folds ∈ wA := ta3 176 rfl rfl
theorem kd_yX1_folds : Cond.code yX1_folds cX1_folds 2 (some .boolean) ∈ wA := ta3 177 rfl rfl
theorem kl_RL_147 : Cond.methodLink RL 147 yL_isFolded ∈ wA := ta2 191 rfl rfl
theorem ks_yL_isFolded : Cond.static yL_isFolded ∈ wA := ta2 192 rfl rfl
theorem kd_yL_isFolded : Cond.codeWith yL_isFolded cL_isFolded 4 (some .int) [(0, 16, 19, 25)] ∈ wA := ta2 193 rfl rfl
theorem kl_RL_46 : Cond.methodLink RL 46 yX0_isFolded ∈ wA := ta2 194 rfl rfl
theorem ki_yX0_isFolded : Cond.instanceMethod yX0_isFolded ∈ wA := ta1 107 rfl rfl
theorem kz_yX0_isFolded : Cond.selects RX0 yX0_isFolded yX0_isFolded ∈ wA := ta1 108 rfl rfl
theorem kd_yX0_isFolded : Cond.code yX0_isFolded cX0_isFolded 2 (some .boolean) ∈ wA := ta1 109 rfl rfl
theorem kl_RL_149 : Cond.methodLink RL 149 yX1_isFolded ∈ wA := ta3 178 rfl rfl
theorem ki_yX1_isFolded : Cond.instanceMethod yX1_isFolded ∈ wA := ta3 179 rfl rfl
theorem kz_yX1_isFolded : Cond.selects RX1 yX1_isFolded yX1_isFolded ∈ wA := ta3 180 rfl rfl
theorem kd_yX1_isFolded : Cond.code yX1_isFolded cX1_isFolded 2 (some .boolean) ∈ wA := ta3 181 rfl rfl
theorem kl_RX1_72 : Cond.methodLink RX1 72 yX1_isFoldedNow ∈ wA := ta3 182 rfl rfl
theorem ki_yX1_isFoldedNow : Cond.instanceMethod yX1_isFoldedNow ∈ wA := ta3 184 rfl rfl
theorem kz_yX1_isFoldedNow : Cond.selects RX1 yX1_isFoldedNow yX1_isFoldedNow ∈ wA := taP 25 rfl rfl
theorem kd_yX1_isFoldedNow : Cond.code yX1_isFoldedNow cX1_isFoldedNow 2 (some .boolean) ∈ wA := ta3 185 rfl rfl
theorem kl_RX1_135 : Cond.methodLink RX1 135 yX1_isNot ∈ wA := ta3 186 rfl rfl
theorem ki_yX1_isNot : Cond.instanceMethod yX1_isNot ∈ wA := ta3 188 rfl rfl
theorem kz_yX1_isNot : Cond.selects RX1 yX1_isNot yX1_isNot ∈ wA := taP 26 rfl rfl
theorem kd_yX1_isNot : Cond.code yX1_isNot cX1_isNot 2 (some .boolean) ∈ wA := ta3 189 rfl rfl
theorem kl_RL_150 : Cond.methodLink RL 150 yL_wordIn ∈ wA := ta2 195 rfl rfl
theorem ks_yL_wordIn : Cond.static yL_wordIn ∈ wA := ta2 196 rfl rfl
theorem kd_yL_wordIn : Cond.codeWith yL_wordIn cL_wordIn 4 (some .int) [(0, 9, 12, 25)] ∈ wA := ta2 197 rfl rfl
theorem kl_RL_50 : Cond.methodLink RL 50 yX0_wordIn ∈ wA := ta2 198 rfl rfl
theorem ki_yX0_wordIn : Cond.instanceMethod yX0_wordIn ∈ wA := ta2 50 rfl rfl
theorem kz_yX0_wordIn : Cond.selects RX0 yX0_wordIn yX0_wordIn ∈ wA := ta2 51 rfl rfl
theorem kd_yX0_wordIn : Cond.code yX0_wordIn cX0_wordIn 2 (some .int) ∈ wA := ta2 52 rfl rfl
theorem kl_RL_152 : Cond.methodLink RL 152 yX1_wordIn ∈ wA := ta3 190 rfl rfl
theorem ki_yX1_wordIn : Cond.instanceMethod yX1_wordIn ∈ wA := ta3 191 rfl rfl
theorem kz_yX1_wordIn : Cond.selects RX1 yX1_wordIn yX1_wordIn ∈ wA := ta3 192 rfl rfl
theorem kd_yX1_wordIn : Cond.code yX1_wordIn cX1_wordIn 2 (some .int) ∈ wA := ta3 193 rfl rfl
theorem kl_RL_153 : Cond.methodLink RL 153 yL_wordOf ∈ wA := ta2 199 rfl rfl
theorem ks_yL_wordOf : Cond.static yL_wordOf ∈ wA := ta2 200 rfl rfl
theorem kd_yL_wordOf : Cond.codeWith yL_wordOf cL_wordOf 4 (some .int) [(0, 9, 12, 25)] ∈ wA := ta2 201 rfl rfl
theorem kl_RL_53 : Cond.methodLink RL 53 yX0_wordOf ∈ wA := ta2 202 rfl rfl
theorem ki_yX0_wordOf : Cond.instanceMethod yX0_wordOf ∈ wA := ta2 62 rfl rfl
theorem kz_yX0_wordOf : Cond.selects RX0 yX0_wordOf yX0_wordOf ∈ wA := ta2 63 rfl rfl
theorem kd_yX0_wordOf : Cond.code yX0_wordOf cX0_wordOf 2 (some .int) ∈ wA := ta2 64 rfl rfl
theorem kl_RL_155 : Cond.methodLink RL 155 yX1_wordOf ∈ wA := ta3 194 rfl rfl
theorem ki_yX1_wordOf : Cond.instanceMethod yX1_wordOf ∈ wA := ta3 195 rfl rfl
theorem kz_yX1_wordOf : Cond.selects RX1 yX1_wordOf yX1_wordOf ∈ wA := ta3 196 rfl rfl
theorem kd_yX1_wordOf : Cond.code yX1_wordOf cX1_wordOf 2 (some .int) ∈ wA := ta3 197 rfl rfl
theorem kl_RL_156 : Cond.methodLink RL 156 yX0_beats ∈ wA := ta1 98 rfl rfl
theorem ki_yX0_beats : Cond.instanceMethod yX0_beats ∈ wA := ta1 99 rfl rfl
theorem kz_yX0_beats : Cond.selects RX0 yX0_beats yX0_beats ∈ wA := ta1 100 rfl rfl
theorem kd_yX0_beats : Cond.code yX0_beats cX0_beats 3 (some .int) ∈ wA := ta1 101 rfl rfl
theorem kl_RL_159 : Cond.methodLink RL 159 yX1_beats ∈ wA := ta3 198 rfl rfl
theorem ki_yX1_beats : Cond.instanceMethod yX1_beats ∈ wA := ta3 199 rfl rfl
theorem kz_yX1_beats : Cond.selects RX1 yX1_beats yX1_beats ∈ wA := ta3 200 rfl rfl
theorem kd_yX1_beats : Cond.code yX1_beats cX1_beats 1 (some .int) ∈ wA := ta3 201 rfl rfl
theorem kl_RX1_138 : Cond.methodLink RX1 138 yX1_allBeats ∈ wA := ta3 202 rfl rfl
theorem ki_yX1_allBeats : Cond.instanceMethod yX1_allBeats ∈ wA := ta3 204 rfl rfl
theorem kz_yX1_allBeats : Cond.selects RX1 yX1_allBeats yX1_allBeats ∈ wA := taP 27 rfl rfl
theorem kd_yX1_allBeats : Cond.code yX1_allBeats cX1_allBeats 3 (some .int) ∈ wA := ta3 205 rfl rfl
theorem kl_RL_160 : Cond.methodLink RL 160 yX0_folded ∈ wA := ta1 102 rfl rfl
theorem ki_yX0_folded : Cond.instanceMethod yX0_folded ∈ wA := ta1 103 rfl rfl
theorem kz_yX0_folded : Cond.selects RX0 yX0_folded yX0_folded ∈ wA := ta1 104 rfl rfl
theorem kd_yX0_folded : Cond.code yX0_folded cX0_folded 3 (some .int) ∈ wA := ta1 105 rfl rfl
theorem kl_RX0_120 : Cond.methodLink RX0 120 yX0_isFolded ∈ wA := ta1 106 rfl rfl
theorem kl_RL_163 : Cond.methodLink RL 163 yX1_folded ∈ wA := ta3 206 rfl rfl
theorem ki_yX1_folded : Cond.instanceMethod yX1_folded ∈ wA := ta3 207 rfl rfl
theorem kz_yX1_folded : Cond.selects RX1 yX1_folded yX1_folded ∈ wA := ta3 208 rfl rfl
theorem kd_yX1_folded : Cond.code yX1_folded cX1_folded 1 (some .int) ∈ wA := ta3 209 rfl rfl
theorem kl_RX1_141 : Cond.methodLink RX1 141 yX1_foldedNow ∈ wA := ta3 210 rfl rfl
theorem ki_yX1_foldedNow : Cond.instanceMethod yX1_foldedNow ∈ wA := ta3 212 rfl rfl
theorem kz_yX1_foldedNow : Cond.selects RX1 yX1_foldedNow yX1_foldedNow ∈ wA := taP 28 rfl rfl
theorem kd_yX1_foldedNow : Cond.code yX1_foldedNow cX1_foldedNow 3 (some .int) ∈ wA := ta3 213 rfl rfl
theorem kl_RL_164 : Cond.methodLink RL 164 yX0_range ∈ wA := ta1 189 rfl rfl
theorem ki_yX0_range : Cond.instanceMethod yX0_range ∈ wA := ta1 190 rfl rfl
theorem kz_yX0_range : Cond.selects RX0 yX0_range yX0_range ∈ wA := ta1 191 rfl rfl
theorem kd_yX0_range : Cond.code yX0_range cX0_range 4 (some .int) ∈ wA := ta1 192 rfl rfl
theorem kl_RX0_123 : Cond.methodLink RX0 123 Lib.Math.min.name ∈ wA := ta1 193 rfl rfl
theorem ks_LM_min_name : Cond.static Lib.Math.min.name ∈ wA := ta1 194 rfl rfl
theorem kd_LM_min_name : Cond.code Lib.Math.min.name Lib.Math.min.code 2 (some .int) ∈ wA := ta1 195 rfl rfl
theorem kl_RL_167 : Cond.methodLink RL 167 yX1_range ∈ wA := ta3 214 rfl rfl
theorem ki_yX1_range : Cond.instanceMethod yX1_range ∈ wA := ta3 215 rfl rfl
theorem kz_yX1_range : Cond.selects RX1 yX1_range yX1_range ∈ wA := ta3 216 rfl rfl
theorem kd_yX1_range : Cond.code yX1_range cX1_range 1 (some .int) ∈ wA := ta3 217 rfl rfl
theorem kl_RX1_146 : Cond.methodLink RX1 146 yX1_wide ∈ wA := ta3 218 rfl rfl
theorem ki_yX1_wide : Cond.instanceMethod yX1_wide ∈ wA := ta3 220 rfl rfl
theorem kz_yX1_wide : Cond.selects RX1 yX1_wide yX1_wide ∈ wA := taP 29 rfl rfl
theorem kd_yX1_wide : Cond.code yX1_wide cX1_wide 4 (some .int) ∈ wA := ta3 221 rfl rfl
theorem kl_RX1_144 : Cond.methodLink RX1 144 Lib.Math.min.name ∈ wA := ta3 222 rfl rfl
theorem kl_RL_168 : Cond.methodLink RL 168 yL_sungWith ∈ wA := ta2 203 rfl rfl
theorem ks_yL_sungWith : Cond.static yL_sungWith ∈ wA := ta2 204 rfl rfl
theorem kd_yL_sungWith : Cond.codeWith yL_sungWith cL_sungWith 4 (some .int) [(0, 9, 12, 25)] ∈ wA := ta2 205 rfl rfl
theorem kl_RL_56 : Cond.methodLink RL 56 yX0_sungWith ∈ wA := ta2 206 rfl rfl
theorem ki_yX0_sungWith : Cond.instanceMethod yX0_sungWith ∈ wA := ta2 207 rfl rfl
theorem kz_yX0_sungWith : Cond.selects RX0 yX0_sungWith yX0_sungWith ∈ wA := ta2 208 rfl rfl
theorem kd_yX0_sungWith : Cond.code yX0_sungWith cX0_sungWith 4 (some .int) ∈ wA := ta2 209 rfl rfl
theorem kl_RX0_126 : Cond.methodLink RX0 126 yX0_checkWord ∈ wA := ta2 210 rfl rfl
theorem ks_yX0_checkWord : Cond.static yX0_checkWord ∈ wA := ta2 211 rfl rfl
theorem kd_yX0_checkWord : Cond.code yX0_checkWord cX0_checkWord 1 none ∈ wA := ta2 212 rfl rfl
theorem kl_RL_170 : Cond.methodLink RL 170 yX1_sungWith ∈ wA := ta3 223 rfl rfl
theorem ki_yX1_sungWith : Cond.instanceMethod yX1_sungWith ∈ wA := ta3 224 rfl rfl
theorem kz_yX1_sungWith : Cond.selects RX1 yX1_sungWith yX1_sungWith ∈ wA := ta3 225 rfl rfl
theorem kd_yX1_sungWith : Cond.code yX1_sungWith cX1_sungWith 4 (some .int) ∈ wA := ta3 226 rfl rfl
theorem kl_RL_171 : Cond.methodLink RL 171 yL_readings ∈ wA := ta2 213 rfl rfl
theorem ks_yL_readings : Cond.static yL_readings ∈ wA := ta2 214 rfl rfl
theorem kd_yL_readings : Cond.codeWith yL_readings cL_readings 4 (some .int) [(0, 9, 12, 25)] ∈ wA := ta2 215 rfl rfl
theorem kl_RL_59 : Cond.methodLink RL 59 yX0_readings ∈ wA := ta2 216 rfl rfl
theorem ki_yX0_readings : Cond.instanceMethod yX0_readings ∈ wA := ta1 205 rfl rfl
theorem kz_yX0_readings : Cond.selects RX0 yX0_readings yX0_readings ∈ wA := ta1 206 rfl rfl
theorem kd_yX0_readings : Cond.code yX0_readings cX0_readings 3 (some .int) ∈ wA := ta1 207 rfl rfl
theorem kl_RX0_129 : Cond.methodLink RX0 129 yX0_turnsSungAs ∈ wA := ta1 208 rfl rfl
theorem ks_yX0_turnsSungAs : Cond.static yX0_turnsSungAs ∈ wA := ta1 209 rfl rfl
theorem kd_yX0_turnsSungAs : Cond.code yX0_turnsSungAs cX0_turnsSungAs 6 (some .int) ∈ wA := ta1 210 rfl rfl
theorem kl_RX0_133 : Cond.methodLink RX0 133 yX0_landmarksNamed ∈ wA := ta1 214 rfl rfl
theorem ki_yX0_landmarksNamed : Cond.instanceMethod yX0_landmarksNamed ∈ wA := ta1 216 rfl rfl
theorem kz_yX0_landmarksNamed : Cond.selects RX0 yX0_landmarksNamed yX0_landmarksNamed ∈ wA := taP 6 rfl rfl
theorem kd_yX0_landmarksNamed : Cond.code yX0_landmarksNamed cX0_landmarksNamed 5 (some .int) ∈ wA := ta1 217 rfl rfl
theorem kl_RL_173 : Cond.methodLink RL 173 yX1_readings ∈ wA := ta3 227 rfl rfl
theorem ki_yX1_readings : Cond.instanceMethod yX1_readings ∈ wA := ta3 228 rfl rfl
theorem kz_yX1_readings : Cond.selects RX1 yX1_readings yX1_readings ∈ wA := ta3 229 rfl rfl
theorem kd_yX1_readings : Cond.code yX1_readings cX1_readings 2 (some .int) ∈ wA := ta3 230 rfl rfl
theorem kl_RX1_91 : Cond.methodLink RX1 91 yX1_manyNow ∈ wA := ta3 231 rfl rfl
theorem ki_yX1_manyNow : Cond.instanceMethod yX1_manyNow ∈ wA := ta3 233 rfl rfl
theorem kz_yX1_manyNow : Cond.selects RX1 yX1_manyNow yX1_manyNow ∈ wA := taP 30 rfl rfl
theorem kd_yX1_manyNow : Cond.code yX1_manyNow cX1_manyNow 2 (some .int) ∈ wA := ta3 234 rfl rfl
theorem kl_RX1_82 : Cond.methodLink RX1 82 yX1_many ∈ wA := ta3 235 rfl rfl
theorem ki_yX1_many : Cond.instanceMethod yX1_many ∈ wA := ta3 237 rfl rfl
theorem kz_yX1_many : Cond.selects RX1 yX1_many yX1_many ∈ wA := taP 31 rfl rfl
theorem kd_yX1_many : Cond.code yX1_many cX1_many 3 (some .int) ∈ wA := ta3 238 rfl rfl
theorem kl_RX1_76 : Cond.methodLink RX1 76 yX1_isTwofold ∈ wA := ta3 239 rfl rfl
theorem ki_yX1_isTwofold : Cond.instanceMethod yX1_isTwofold ∈ wA := ta4 1 rfl rfl
theorem kz_yX1_isTwofold : Cond.selects RX1 yX1_isTwofold yX1_isTwofold ∈ wA := taP 32 rfl rfl
theorem kd_yX1_isTwofold : Cond.code yX1_isTwofold cX1_isTwofold 3 (some .boolean) ∈ wA := ta4 2 rfl rfl
theorem kl_RX1_79 : Cond.methodLink RX1 79 yX1_alike ∈ wA := ta4 3 rfl rfl
theorem ki_yX1_alike : Cond.instanceMethod yX1_alike ∈ wA := ta4 5 rfl rfl
theorem kz_yX1_alike : Cond.selects RX1 yX1_alike yX1_alike ∈ wA := taP 33 rfl rfl
theorem kd_yX1_alike : Cond.code yX1_alike cX1_alike 4 (some .int) ∈ wA := ta4 6 rfl rfl
theorem kl_RL_174 : Cond.methodLink RL 174 yL_rightReading ∈ wA := ta2 217 rfl rfl
theorem ks_yL_rightReading : Cond.static yL_rightReading ∈ wA := ta2 218 rfl rfl
theorem kd_yL_rightReading : Cond.codeWith yL_rightReading cL_rightReading 4 (some .int) [(0, 9, 12, 25)] ∈ wA := ta2 219 rfl rfl
theorem kl_RL_62 : Cond.methodLink RL 62 yX0_rightReading ∈ wA := ta2 220 rfl rfl
theorem ki_yX0_rightReading : Cond.instanceMethod yX0_rightReading ∈ wA := ta2 54 rfl rfl
theorem kz_yX0_rightReading : Cond.selects RX0 yX0_rightReading yX0_rightReading ∈ wA := ta2 55 rfl rfl
theorem kd_yX0_rightReading : Cond.code yX0_rightReading cX0_rightReading 4 (some .int) ∈ wA := ta2 56 rfl rfl
theorem kl_RL_176 : Cond.methodLink RL 176 yX1_rightReading ∈ wA := ta4 7 rfl rfl
theorem ki_yX1_rightReading : Cond.instanceMethod yX1_rightReading ∈ wA := ta4 8 rfl rfl
theorem kz_yX1_rightReading : Cond.selects RX1 yX1_rightReading yX1_rightReading ∈ wA := ta4 9 rfl rfl
theorem kd_yX1_rightReading : Cond.code yX1_rightReading cX1_rightReading 2 (some .int) ∈ wA := ta4 10 rfl rfl
theorem kl_RX1_149 : Cond.methodLink RX1 149 yX1_right ∈ wA := ta4 11 rfl rfl
theorem ki_yX1_right : Cond.instanceMethod yX1_right ∈ wA := ta4 13 rfl rfl
theorem kz_yX1_right : Cond.selects RX1 yX1_right yX1_right ∈ wA := taP 34 rfl rfl
theorem kd_yX1_right : Cond.code yX1_right cX1_right 4 (some .int) ∈ wA := ta4 14 rfl rfl
theorem kl_RL_177 : Cond.methodLink RL 177 yL_isAmbiguous ∈ wA := ta2 221 rfl rfl
theorem ks_yL_isAmbiguous : Cond.static yL_isAmbiguous ∈ wA := ta2 222 rfl rfl
theorem kd_yL_isAmbiguous : Cond.codeWith yL_isAmbiguous cL_isAmbiguous 4 (some .int) [(0, 16, 19, 25)] ∈ wA := ta2 223 rfl rfl
theorem kl_RL_65 : Cond.methodLink RL 65 yX0_isAmbiguous ∈ wA := ta2 224 rfl rfl
theorem ki_yX0_isAmbiguous : Cond.instanceMethod yX0_isAmbiguous ∈ wA := ta1 201 rfl rfl
theorem kz_yX0_isAmbiguous : Cond.selects RX0 yX0_isAmbiguous yX0_isAmbiguous ∈ wA := ta1 202 rfl rfl
theorem kd_yX0_isAmbiguous : Cond.code yX0_isAmbiguous cX0_isAmbiguous 2 (some .boolean) ∈ wA := ta1 203 rfl rfl
theorem kl_RX0_136 : Cond.methodLink RX0 136 yX0_readings ∈ wA := ta1 204 rfl rfl
theorem kl_RL_179 : Cond.methodLink RL 179 yX1_isAmbiguous ∈ wA := ta4 15 rfl rfl
theorem ki_yX1_isAmbiguous : Cond.instanceMethod yX1_isAmbiguous ∈ wA := ta4 16 rfl rfl
theorem kz_yX1_isAmbiguous : Cond.selects RX1 yX1_isAmbiguous yX1_isAmbiguous ∈ wA := ta4 17 rfl rfl
theorem kd_yX1_isAmbiguous : Cond.code yX1_isAmbiguous cX1_isAmbiguous 2 (some .boolean) ∈ wA := ta4 18 rfl rfl
theorem kl_RX1_94 : Cond.methodLink RX1 94 yX1_isOpen ∈ wA := ta4 19 rfl rfl
theorem ki_yX1_isOpen : Cond.instanceMethod yX1_isOpen ∈ wA := ta4 21 rfl rfl
theorem kz_yX1_isOpen : Cond.selects RX1 yX1_isOpen yX1_isOpen ∈ wA := taP 35 rfl rfl
theorem kd_yX1_isOpen : Cond.code yX1_isOpen cX1_isOpen 2 (some .boolean) ∈ wA := ta4 22 rfl rfl
theorem kl_RX1_88 : Cond.methodLink RX1 88 yX1_isMendedNow ∈ wA := ta4 23 rfl rfl
theorem ki_yX1_isMendedNow : Cond.instanceMethod yX1_isMendedNow ∈ wA := ta4 25 rfl rfl
theorem kz_yX1_isMendedNow : Cond.selects RX1 yX1_isMendedNow yX1_isMendedNow ∈ wA := taP 36 rfl rfl
theorem kd_yX1_isMendedNow : Cond.code yX1_isMendedNow cX1_isMendedNow 2 (some .boolean) ∈ wA := ta4 26 rfl rfl
theorem kl_RL_180 : Cond.methodLink RL 180 yL_isMended ∈ wA := ta2 225 rfl rfl
theorem ks_yL_isMended : Cond.static yL_isMended ∈ wA := ta2 226 rfl rfl
theorem kd_yL_isMended : Cond.codeWith yL_isMended cL_isMended 4 (some .int) [(0, 16, 19, 25)] ∈ wA := ta2 227 rfl rfl
theorem kl_RL_68 : Cond.methodLink RL 68 yX0_isMended ∈ wA := ta2 228 rfl rfl
theorem ki_yX0_isMended : Cond.instanceMethod yX0_isMended ∈ wA := ta2 58 rfl rfl
theorem kz_yX0_isMended : Cond.selects RX0 yX0_isMended yX0_isMended ∈ wA := ta2 59 rfl rfl
theorem kd_yX0_isMended : Cond.code yX0_isMended cX0_isMended 2 (some .boolean) ∈ wA := ta2 60 rfl rfl
theorem kl_RL_182 : Cond.methodLink RL 182 yX1_isMended ∈ wA := ta4 27 rfl rfl
theorem ki_yX1_isMended : Cond.instanceMethod yX1_isMended ∈ wA := ta4 28 rfl rfl
theorem kz_yX1_isMended : Cond.selects RX1 yX1_isMended yX1_isMended ∈ wA := ta4 29 rfl rfl
theorem kd_yX1_isMended : Cond.code yX1_isMended cX1_isMended 2 (some .boolean) ∈ wA := ta4 30 rfl rfl
theorem kl_RL_183 : Cond.methodLink RL 183 yL_mend ∈ wA := ta2 229 rfl rfl
theorem ks_yL_mend : Cond.static yL_mend ∈ wA := ta2 230 rfl rfl
theorem kd_yL_mend : Cond.codeWith yL_mend cL_mend 4 (some .int) [(0, 9, 12, 25), (0, 9, 15, 15)] ∈ wA := ta2 231 rfl rfl
theorem kl_RL_71 : Cond.methodLink RL 71 yX0_mend ∈ wA := ta2 232 rfl rfl
theorem ki_yX0_mend : Cond.instanceMethod yX0_mend ∈ wA := ta2 233 rfl rfl
theorem kz_yX0_mend : Cond.selects RX0 yX0_mend yX0_mend ∈ wA := ta2 234 rfl rfl
theorem kd_yX0_mend : Cond.code yX0_mend cX0_mend 2 (some .int) ∈ wA := ta2 235 rfl rfl
theorem kl_RX0_139 : Cond.methodLink RX0 139 yX0_isAmbiguous ∈ wA := ta1 200 rfl rfl
theorem kl_RX0_144 : Cond.methodLink RX0 144 yX0_rightReading ∈ wA := ta2 53 rfl rfl
theorem kl_RL_185 : Cond.methodLink RL 185 yX1_mend ∈ wA := ta4 31 rfl rfl
theorem ki_yX1_mend : Cond.instanceMethod yX1_mend ∈ wA := ta4 32 rfl rfl
theorem kz_yX1_mend : Cond.selects RX1 yX1_mend yX1_mend ∈ wA := ta4 33 rfl rfl
theorem kd_yX1_mend : Cond.code yX1_mend cX1_mend 2 (some .int) ∈ wA := ta4 34 rfl rfl
theorem kl_RL_186 : Cond.methodLink RL 186 yL_mendTo ∈ wA := ta2 237 rfl rfl
theorem ks_yL_mendTo : Cond.static yL_mendTo ∈ wA := ta2 238 rfl rfl
theorem kd_yL_mendTo : Cond.codeWith yL_mendTo cL_mendTo 4 (some .int) [(0, 9, 12, 13)] ∈ wA := ta2 239 rfl rfl
theorem kl_RL_74 : Cond.methodLink RL 74 yX0_mendTo ∈ wA := ta3 0 rfl rfl
theorem ki_yX0_mendTo : Cond.instanceMethod yX0_mendTo ∈ wA := ta3 1 rfl rfl
theorem kz_yX0_mendTo : Cond.selects RX0 yX0_mendTo yX0_mendTo ∈ wA := ta3 2 rfl rfl
theorem kd_yX0_mendTo : Cond.code yX0_mendTo cX0_mendTo 4 (some .int) ∈ wA := ta3 3 rfl rfl
theorem kk_RX0_147 : Cond.constant RX0 147 (1000000) ∈ wA := ta3 4 rfl rfl
theorem kl_RX0_150 : Cond.methodLink RX0 150 yX0_ways ∈ wA := ta2 27 rfl rfl
theorem ki_yX0_ways : Cond.instanceMethod yX0_ways ∈ wA := ta1 219 rfl rfl
theorem kz_yX0_ways : Cond.selects RX0 yX0_ways yX0_ways ∈ wA := ta1 220 rfl rfl
theorem kd_yX0_ways : Cond.code yX0_ways cX0_ways 4 (some .long) ∈ wA := ta1 221 rfl rfl
theorem kk_RX0_157 : Cond.constantLong RX0 157 (1000000000) ∈ wA := ta1 222 rfl rfl
theorem kl_RX0_159 : Cond.methodLink RX0 159 Lib.MathLoose.min_long.x ∈ wA := ta1 223 rfl rfl
theorem ks_LM_min_long_x : Cond.static Lib.MathLoose.min_long.x ∈ wA := ta1 224 rfl rfl
theorem kd_LM_min_long_x : Cond.code Lib.MathLoose.min_long.x Lib.MathLoose.min_long.code 4 (some .long) ∈ wA := ta1 225 rfl rfl
theorem kl_RX0_154 : Cond.methodLink RX0 154 yX0_mostAmbiguous ∈ wA := ta3 6 rfl rfl
theorem ki_yX0_mostAmbiguous : Cond.instanceMethod yX0_mostAmbiguous ∈ wA := ta3 8 rfl rfl
theorem kz_yX0_mostAmbiguous : Cond.selects RX0 yX0_mostAmbiguous yX0_mostAmbiguous ∈ wA := taP 14 rfl rfl
theorem kd_yX0_mostAmbiguous : Cond.code yX0_mostAmbiguous cX0_mostAmbiguous 5 (some .int) ∈ wA := ta3 9 rfl rfl
theorem kl_RL_188 : Cond.methodLink RL 188 yX1_mendTo ∈ wA := ta4 35 rfl rfl
theorem ki_yX1_mendTo : Cond.instanceMethod yX1_mendTo ∈ wA := ta4 36 rfl rfl
theorem kz_yX1_mendTo : Cond.selects RX1 yX1_mendTo yX1_mendTo ∈ wA := ta4 37 rfl rfl
theorem kd_yX1_mendTo : Cond.code yX1_mendTo cX1_mendTo 5 (some .int) ∈ wA := ta4 38 rfl rfl
theorem kk_RX1_152 : Cond.constant RX1 152 (1000000) ∈ wA := ta4 39 rfl rfl
theorem kl_RX1_153 : Cond.methodLink RX1 153 yX1_all ∈ wA := ta4 40 rfl rfl
theorem ki_yX1_all : Cond.instanceMethod yX1_all ∈ wA := ta4 42 rfl rfl
theorem kz_yX1_all : Cond.selects RX1 yX1_all yX1_all ∈ wA := taP 37 rfl rfl
theorem kd_yX1_all : Cond.code yX1_all cX1_all 4 (some .long) ∈ wA := ta4 43 rfl rfl
theorem kk_RX1_97 : Cond.constantLong RX1 97 (1000000000) ∈ wA := ta4 44 rfl rfl
theorem kl_RX1_99 : Cond.methodLink RX1 99 Lib.MathLoose.min_long.x ∈ wA := ta4 45 rfl rfl
theorem kl_RL_189 : Cond.methodLink RL 189 yX0_ambiguous ∈ wA := ta1 196 rfl rfl
theorem ki_yX0_ambiguous : Cond.instanceMethod yX0_ambiguous ∈ wA := ta1 197 rfl rfl
theorem kz_yX0_ambiguous : Cond.selects RX0 yX0_ambiguous yX0_ambiguous ∈ wA := ta1 198 rfl rfl
theorem kd_yX0_ambiguous : Cond.code yX0_ambiguous cX0_ambiguous 3 (some .int) ∈ wA := ta1 199 rfl rfl
theorem kl_RL_192 : Cond.methodLink RL 192 yX1_ambiguous ∈ wA := ta4 46 rfl rfl
theorem ki_yX1_ambiguous : Cond.instanceMethod yX1_ambiguous ∈ wA := ta4 47 rfl rfl
theorem kz_yX1_ambiguous : Cond.selects RX1 yX1_ambiguous yX1_ambiguous ∈ wA := ta4 48 rfl rfl
theorem kd_yX1_ambiguous : Cond.code yX1_ambiguous cX1_ambiguous 1 (some .int) ∈ wA := ta4 49 rfl rfl
theorem kl_RX1_157 : Cond.methodLink RX1 157 yX1_open ∈ wA := ta4 50 rfl rfl
theorem ki_yX1_open : Cond.instanceMethod yX1_open ∈ wA := ta4 52 rfl rfl
theorem kz_yX1_open : Cond.selects RX1 yX1_open yX1_open ∈ wA := taP 38 rfl rfl
theorem kd_yX1_open : Cond.code yX1_open cX1_open 3 (some .int) ∈ wA := ta4 53 rfl rfl
theorem kl_RL_193 : Cond.methodLink RL 193 yX0_ways ∈ wA := ta1 218 rfl rfl
theorem kl_RL_197 : Cond.methodLink RL 197 yX1_ways ∈ wA := ta4 54 rfl rfl
theorem ki_yX1_ways : Cond.instanceMethod yX1_ways ∈ wA := ta4 55 rfl rfl
theorem kz_yX1_ways : Cond.selects RX1 yX1_ways yX1_ways ∈ wA := ta4 56 rfl rfl
theorem kd_yX1_ways : Cond.code yX1_ways cX1_ways 1 (some .long) ∈ wA := ta4 57 rfl rfl
theorem kl_RL_198 : Cond.methodLink RL 198 yX0_firstAmbiguous ∈ wA := ta1 226 rfl rfl
theorem ki_yX0_firstAmbiguous : Cond.instanceMethod yX0_firstAmbiguous ∈ wA := ta1 227 rfl rfl
theorem kz_yX0_firstAmbiguous : Cond.selects RX0 yX0_firstAmbiguous yX0_firstAmbiguous ∈ wA := ta1 228 rfl rfl
theorem kd_yX0_firstAmbiguous : Cond.code yX0_firstAmbiguous cX0_firstAmbiguous 2 (some .int) ∈ wA := ta1 229 rfl rfl
theorem kl_RL_201 : Cond.methodLink RL 201 yX1_firstAmbiguous ∈ wA := ta4 58 rfl rfl
theorem ki_yX1_firstAmbiguous : Cond.instanceMethod yX1_firstAmbiguous ∈ wA := ta4 59 rfl rfl
theorem kz_yX1_firstAmbiguous : Cond.selects RX1 yX1_firstAmbiguous yX1_firstAmbiguous ∈ wA := ta4 60 rfl rfl
theorem kd_yX1_firstAmbiguous : Cond.code yX1_firstAmbiguous cX1_firstAmbiguous 1 (some .int) ∈ wA := ta4 61 rfl rfl
theorem kl_RX1_160 : Cond.methodLink RX1 160 yX1_firstOpen ∈ wA := ta4 62 rfl rfl
theorem ki_yX1_firstOpen : Cond.instanceMethod yX1_firstOpen ∈ wA := ta4 64 rfl rfl
theorem kz_yX1_firstOpen : Cond.selects RX1 yX1_firstOpen yX1_firstOpen ∈ wA := taP 39 rfl rfl
theorem kd_yX1_firstOpen : Cond.code yX1_firstOpen cX1_firstOpen 2 (some .int) ∈ wA := ta4 65 rfl rfl
theorem kl_RL_202 : Cond.methodLink RL 202 yL_ambiguousWith ∈ wA := ta3 10 rfl rfl
theorem ks_yL_ambiguousWith : Cond.static yL_ambiguousWith ∈ wA := ta3 11 rfl rfl
theorem kd_yL_ambiguousWith : Cond.codeWith yL_ambiguousWith cL_ambiguousWith 5 (some .int) [(0, 10, 13, 25)] ∈ wA := ta3 12 rfl rfl
theorem kl_RL_77 : Cond.methodLink RL 77 yX0_ambiguousWith ∈ wA := ta3 13 rfl rfl
theorem ki_yX0_ambiguousWith : Cond.instanceMethod yX0_ambiguousWith ∈ wA := ta3 14 rfl rfl
theorem kz_yX0_ambiguousWith : Cond.selects RX0 yX0_ambiguousWith yX0_ambiguousWith ∈ wA := ta3 15 rfl rfl
theorem kd_yX0_ambiguousWith : Cond.code yX0_ambiguousWith cX0_ambiguousWith 3 (some .int) ∈ wA := ta3 16 rfl rfl
theorem kl_RX0_162 : Cond.methodLink RX0 162 yX0_unmendedWith ∈ wA := ta1 234 rfl rfl
theorem ki_yX0_unmendedWith : Cond.instanceMethod yX0_unmendedWith ∈ wA := ta1 236 rfl rfl
theorem kz_yX0_unmendedWith : Cond.selects RX0 yX0_unmendedWith yX0_unmendedWith ∈ wA := taP 7 rfl rfl
theorem kd_yX0_unmendedWith : Cond.code yX0_unmendedWith cX0_unmendedWith 9 (some .int) ∈ wA := ta1 237 rfl rfl
theorem kl_RX0_230 : Cond.methodLink RX0 230 yX0_sharesWordIf ∈ wA := ta1 238 rfl rfl
theorem ki_yX0_sharesWordIf : Cond.instanceMethod yX0_sharesWordIf ∈ wA := ta2 0 rfl rfl
theorem kz_yX0_sharesWordIf : Cond.selects RX0 yX0_sharesWordIf yX0_sharesWordIf ∈ wA := taP 8 rfl rfl
theorem kd_yX0_sharesWordIf : Cond.code yX0_sharesWordIf cX0_sharesWordIf 6 (some .boolean) ∈ wA := ta2 1 rfl rfl
theorem kl_RX0_234 : Cond.methodLink RX0 234 yX0_wordIf ∈ wA := ta2 2 rfl rfl
theorem ki_yX0_wordIf : Cond.instanceMethod yX0_wordIf ∈ wA := ta2 4 rfl rfl
theorem kz_yX0_wordIf : Cond.selects RX0 yX0_wordIf yX0_wordIf ∈ wA := taP 9 rfl rfl
theorem kd_yX0_wordIf : Cond.code yX0_wordIf cX0_wordIf 4 (some .int) ∈ wA := ta2 5 rfl rfl
theorem kl_RL_204 : Cond.methodLink RL 204 yX1_ambiguousWith ∈ wA := ta4 66 rfl rfl
theorem ki_yX1_ambiguousWith : Cond.instanceMethod yX1_ambiguousWith ∈ wA := ta4 67 rfl rfl
theorem kz_yX1_ambiguousWith : Cond.selects RX1 yX1_ambiguousWith yX1_ambiguousWith ∈ wA := ta4 68 rfl rfl
theorem kd_yX1_ambiguousWith : Cond.code yX1_ambiguousWith cX1_ambiguousWith 3 (some .int) ∈ wA := ta4 69 rfl rfl
theorem kl_RX1_106 : Cond.methodLink RX1 106 yX1_openWith ∈ wA := ta4 70 rfl rfl
theorem ki_yX1_openWith : Cond.instanceMethod yX1_openWith ∈ wA := ta4 72 rfl rfl
theorem kz_yX1_openWith : Cond.selects RX1 yX1_openWith yX1_openWith ∈ wA := taP 40 rfl rfl
theorem kd_yX1_openWith : Cond.code yX1_openWith cX1_openWith 5 (some .int) ∈ wA := ta4 73 rfl rfl
theorem kl_RX1_103 : Cond.methodLink RX1 103 yX1_openBy ∈ wA := ta4 74 rfl rfl
theorem ki_yX1_openBy : Cond.instanceMethod yX1_openBy ∈ wA := ta4 76 rfl rfl
theorem kz_yX1_openBy : Cond.selects RX1 yX1_openBy yX1_openBy ∈ wA := taP 41 rfl rfl
theorem kd_yX1_openBy : Cond.code yX1_openBy cX1_openBy 4 (some .int) ∈ wA := ta4 77 rfl rfl
theorem kl_RL_205 : Cond.methodLink RL 205 yL_bestWord ∈ wA := ta3 17 rfl rfl
theorem ks_yL_bestWord : Cond.static yL_bestWord ∈ wA := ta3 18 rfl rfl
theorem kd_yL_bestWord : Cond.codeWith yL_bestWord cL_bestWord 4 (some .int) [(0, 9, 12, 25)] ∈ wA := ta3 19 rfl rfl
theorem kl_RL_80 : Cond.methodLink RL 80 yX0_bestWord ∈ wA := ta3 20 rfl rfl
theorem ki_yX0_bestWord : Cond.instanceMethod yX0_bestWord ∈ wA := ta2 73 rfl rfl
theorem kz_yX0_bestWord : Cond.selects RX0 yX0_bestWord yX0_bestWord ∈ wA := ta2 74 rfl rfl
theorem kd_yX0_bestWord : Cond.code yX0_bestWord cX0_bestWord 6 (some .int) ∈ wA := ta2 75 rfl rfl
theorem kl_RL_207 : Cond.methodLink RL 207 yX1_bestWord ∈ wA := ta4 78 rfl rfl
theorem ki_yX1_bestWord : Cond.instanceMethod yX1_bestWord ∈ wA := ta4 79 rfl rfl
theorem kz_yX1_bestWord : Cond.selects RX1 yX1_bestWord yX1_bestWord ∈ wA := ta4 80 rfl rfl
theorem kd_yX1_bestWord : Cond.code yX1_bestWord cX1_bestWord 2 (some .int) ∈ wA := ta4 81 rfl rfl
theorem kl_RX1_163 : Cond.methodLink RX1 163 yX1_wordFor ∈ wA := ta4 82 rfl rfl
theorem ki_yX1_wordFor : Cond.instanceMethod yX1_wordFor ∈ wA := ta4 84 rfl rfl
theorem kz_yX1_wordFor : Cond.selects RX1 yX1_wordFor yX1_wordFor ∈ wA := taP 42 rfl rfl
theorem kd_yX1_wordFor : Cond.code yX1_wordFor cX1_wordFor 4 (some .int) ∈ wA := ta4 85 rfl rfl
theorem kl_RL_208 : Cond.methodLink RL 208 yX0_bestStep ∈ wA := ta1 230 rfl rfl
theorem ki_yX0_bestStep : Cond.instanceMethod yX0_bestStep ∈ wA := ta1 231 rfl rfl
theorem kz_yX0_bestStep : Cond.selects RX0 yX0_bestStep yX0_bestStep ∈ wA := ta1 232 rfl rfl
theorem kd_yX0_bestStep : Cond.code yX0_bestStep cX0_bestStep 5 (some .int) ∈ wA := ta1 233 rfl rfl
theorem kl_RL_211 : Cond.methodLink RL 211 yX1_bestStep ∈ wA := ta4 86 rfl rfl
theorem ki_yX1_bestStep : Cond.instanceMethod yX1_bestStep ∈ wA := ta4 87 rfl rfl
theorem kz_yX1_bestStep : Cond.selects RX1 yX1_bestStep yX1_bestStep ∈ wA := ta4 88 rfl rfl
theorem kd_yX1_bestStep : Cond.code yX1_bestStep cX1_bestStep 1 (some .int) ∈ wA := ta4 89 rfl rfl
theorem kl_RX1_166 : Cond.methodLink RX1 166 yX1_stepFor ∈ wA := ta4 90 rfl rfl
theorem ki_yX1_stepFor : Cond.instanceMethod yX1_stepFor ∈ wA := ta4 92 rfl rfl
theorem kz_yX1_stepFor : Cond.selects RX1 yX1_stepFor yX1_stepFor ∈ wA := taP 43 rfl rfl
theorem kd_yX1_stepFor : Cond.code yX1_stepFor cX1_stepFor 3 (some .int) ∈ wA := ta4 93 rfl rfl
theorem kl_RL_212 : Cond.methodLink RL 212 yX0_meanNote ∈ wA := ta2 6 rfl rfl
theorem ki_yX0_meanNote : Cond.instanceMethod yX0_meanNote ∈ wA := ta2 7 rfl rfl
theorem kz_yX0_meanNote : Cond.selects RX0 yX0_meanNote yX0_meanNote ∈ wA := ta2 8 rfl rfl
theorem kd_yX0_meanNote : Cond.code yX0_meanNote cX0_meanNote 3 (some .double) ∈ wA := ta2 9 rfl rfl
theorem kl_RL_216 : Cond.methodLink RL 216 yX1_meanNote ∈ wA := ta4 94 rfl rfl
theorem ki_yX1_meanNote : Cond.instanceMethod yX1_meanNote ∈ wA := ta4 95 rfl rfl
theorem kz_yX1_meanNote : Cond.selects RX1 yX1_meanNote yX1_meanNote ∈ wA := ta4 96 rfl rfl
theorem kd_yX1_meanNote : Cond.code yX1_meanNote cX1_meanNote 3 (some .double) ∈ wA := ta4 97 rfl rfl
theorem kl_RL_217 : Cond.methodLink RL 217 yX0_digest ∈ wA := ta2 10 rfl rfl
theorem ki_yX0_digest : Cond.instanceMethod yX0_digest ∈ wA := ta2 11 rfl rfl
theorem kz_yX0_digest : Cond.selects RX0 yX0_digest yX0_digest ∈ wA := ta2 12 rfl rfl
theorem kd_yX0_digest : Cond.code yX0_digest cX0_digest 4 (some .long) ∈ wA := ta2 13 rfl rfl
theorem kk_RX0_166 : Cond.constantLong RX0 166 (1051) ∈ wA := ta2 14 rfl rfl
theorem kl_RX0_168 : Cond.methodLink RX0 168 yX0_legs ∈ wA := ta2 15 rfl rfl
theorem kl_RX0_171 : Cond.methodLink RX0 171 yX0_digested ∈ wA := ta2 16 rfl rfl
theorem ks_yX0_digested : Cond.static yX0_digested ∈ wA := ta2 17 rfl rfl
theorem kd_yX0_digested : Cond.code yX0_digested cX0_digested 4 (some .long) ∈ wA := ta2 18 rfl rfl
theorem kk_RX0_237 : Cond.constantLong RX0 237 (31) ∈ wA := ta2 19 rfl rfl
theorem kl_RX0_174 : Cond.methodLink RX0 174 yX0_step ∈ wA := ta2 20 rfl rfl
theorem kl_RX0_177 : Cond.methodLink RX0 177 yX0_stepsHome ∈ wA := ta2 21 rfl rfl
theorem kl_RX0_180 : Cond.methodLink RX0 180 yX0_returns ∈ wA := ta2 22 rfl rfl
theorem kl_RX0_183 : Cond.methodLink RX0 183 yX0_beats ∈ wA := ta2 23 rfl rfl
theorem kl_RX0_186 : Cond.methodLink RX0 186 yX0_folded ∈ wA := ta2 24 rfl rfl
theorem kl_RX0_189 : Cond.methodLink RX0 189 yX0_range ∈ wA := ta2 25 rfl rfl
theorem kl_RX0_192 : Cond.methodLink RX0 192 yX0_ambiguous ∈ wA := ta2 26 rfl rfl
theorem kl_RX0_195 : Cond.methodLink RX0 195 yX0_bestStep ∈ wA := ta2 28 rfl rfl
theorem kl_RX0_198 : Cond.methodLink RX0 198 yX0_digestOfLeg ∈ wA := ta2 29 rfl rfl
theorem ki_yX0_digestOfLeg : Cond.instanceMethod yX0_digestOfLeg ∈ wA := ta2 31 rfl rfl
theorem kz_yX0_digestOfLeg : Cond.selects RX0 yX0_digestOfLeg yX0_digestOfLeg ∈ wA := taP 10 rfl rfl
theorem kd_yX0_digestOfLeg : Cond.code yX0_digestOfLeg cX0_digestOfLeg 6 (some .long) ∈ wA := ta2 32 rfl rfl
theorem kl_RX0_239 : Cond.methodLink RX0 239 yX0_turnOf ∈ wA := ta2 33 rfl rfl
theorem kl_RX0_242 : Cond.methodLink RX0 242 yX0_headingOf ∈ wA := ta2 37 rfl rfl
theorem kl_RX0_245 : Cond.methodLink RX0 245 yX0_landmarkOf ∈ wA := ta2 41 rfl rfl
theorem kl_RX0_248 : Cond.methodLink RX0 248 yX0_noteOf ∈ wA := ta2 45 rfl rfl
theorem kl_RX0_251 : Cond.methodLink RX0 251 yX0_wordIn ∈ wA := ta2 49 rfl rfl
theorem kl_RX0_254 : Cond.methodLink RX0 254 yX0_isMended ∈ wA := ta2 57 rfl rfl
theorem kl_RX0_202 : Cond.methodLink RX0 202 yX0_wordOf ∈ wA := ta2 61 rfl rfl
theorem kl_RX0_205 : Cond.methodLink RX0 205 yX0_bestWord ∈ wA := ta2 72 rfl rfl
theorem kl_RL_220 : Cond.methodLink RL 220 yX1_digest ∈ wA := ta4 98 rfl rfl
theorem ki_yX1_digest : Cond.instanceMethod yX1_digest ∈ wA := ta4 99 rfl rfl
theorem kz_yX1_digest : Cond.selects RX1 yX1_digest yX1_digest ∈ wA := ta4 100 rfl rfl
theorem kd_yX1_digest : Cond.code yX1_digest cX1_digest 10 (some .long) ∈ wA := ta4 101 rfl rfl
theorem kk_RX1_169 : Cond.constantLong RX1 169 (1051) ∈ wA := ta4 102 rfl rfl
theorem kk_RX1_171 : Cond.constantLong RX1 171 (31) ∈ wA := ta4 103 rfl rfl
theorem wx0 : ∀ w ∈ wsX00, w ∈ wA := by
  show ∀ w ∈ (List.range 11).map (u_lay RX0 TX0), w ∈ wA
  exact List.forall_mem_cons.mpr ⟨ta1 29 rfl rfl, List.forall_mem_cons.mpr ⟨ta1 31 rfl rfl, List.forall_mem_cons.mpr ⟨ta1 33 rfl rfl, List.forall_mem_cons.mpr ⟨ta1 35 rfl rfl, List.forall_mem_cons.mpr ⟨ta1 37 rfl rfl, List.forall_mem_cons.mpr ⟨ta1 39 rfl rfl, List.forall_mem_cons.mpr ⟨ta1 41 rfl rfl, List.forall_mem_cons.mpr ⟨ta1 43 rfl rfl, List.forall_mem_cons.mpr ⟨ta1 45 rfl rfl, List.forall_mem_cons.mpr ⟨ta1 47 rfl rfl, List.forall_mem_cons.mpr ⟨ta1 49 rfl rfl, fun _ h => absurd h List.not_mem_nil⟩⟩⟩⟩⟩⟩⟩⟩⟩⟩⟩
theorem wx1 : ∀ w ∈ wsX10, w ∈ wA := by
  show ∀ w ∈ (List.range 11).map (u_lay RX1 TX1), w ∈ wA
  exact List.forall_mem_cons.mpr ⟨ta3 38 rfl rfl, List.forall_mem_cons.mpr ⟨ta3 40 rfl rfl, List.forall_mem_cons.mpr ⟨ta3 42 rfl rfl, List.forall_mem_cons.mpr ⟨ta3 44 rfl rfl, List.forall_mem_cons.mpr ⟨ta3 46 rfl rfl, List.forall_mem_cons.mpr ⟨ta3 48 rfl rfl, List.forall_mem_cons.mpr ⟨ta3 50 rfl rfl, List.forall_mem_cons.mpr ⟨ta3 52 rfl rfl, List.forall_mem_cons.mpr ⟨ta3 54 rfl rfl, List.forall_mem_cons.mpr ⟨ta3 56 rfl rfl, List.forall_mem_cons.mpr ⟨ta3 58 rfl rfl, fun _ h => absurd h List.not_mem_nil⟩⟩⟩⟩⟩⟩⟩⟩⟩⟩⟩
end
section
/-! OWN ROWS: a method's words, its start, loops, calls -/
def wm (y : MethodName) (c : ByteArray) (n : Nat) (r : Option FieldType) : List Cond := .code y c n r :: wA
theorem gm {y : MethodName} {c : ByteArray} {n : Nat} {r : Option FieldType} (h : Cond.code y c n r ∈ wA) : GoodIn wA (wm y c n r) := by
  intro w hw
  rcases List.mem_cons.mp hw with e | hw
  · rw [e]; exact gA _ h
  · exact gA _ hw
/-- what a call of an instance method needs of the words -/
abbrev IM (C : String) (y : MethodName) (c : ByteArray) (n : Nat) (r : Option FieldType) (k : Nat) : Prop :=
  (Cond.instanceMethod y ∈ wA ∧ Cond.selects C y y ∈ wA ∧ Cond.initialized C ∈ wA ∧ Cond.code y c n r ∈ wA) ∧ (y.cls = C ∧ y.cls ≠ "java/lang/invoke/MethodHandle" ∧ y.cls ≠ "java/lang/invoke/VarHandle" ∧ (parseMethodDescriptor y.desc).map (fun d => d.parameters.length) = some k)
abbrev SM (y : MethodName) (c : ByteArray) (n : Nat) (r : Option FieldType) (k : Nat) : Prop :=
  (Cond.static y ∈ wA ∧ Cond.initialized y.cls ∈ wA ∧ Cond.code y c n r ∈ wA) ∧ (y.cls ≠ "java/lang/invoke/MethodHandle" ∧ y.cls ≠ "java/lang/invoke/VarHandle" ∧ (parseMethodDescriptor y.desc).map (fun d => d.parameters.length) = some k)
theorem gV {own C : String} {idx : Nat} {y : MethodName} {c : ByteArray} {n : Nat} {r : Option FieldType} (h1 : Cond.methodLink own idx y ∈ wA) (h : Cond.instanceMethod y ∈ wA ∧ Cond.selects C y y ∈ wA ∧ Cond.initialized C ∈ wA ∧ Cond.code y c n r ∈ wA) : GoodIn wA (wsV own idx C y (wm y c n r)) := by
  intro w hw
  unfold wsV at hw
  rcases List.mem_append.mp hw with hw | hw
  · simp only [List.mem_cons, List.not_mem_nil, or_false] at hw
    rcases hw with e | e | e | e <;> rw [e]
    · exact gA _ h1
    · exact gA _ h.1
    · exact gA _ h.2.1
    · exact gA _ h.2.2.1
  · exact gm h.2.2.2 _ hw
theorem gS {own : String} {idx : Nat} {y : MethodName} {c : ByteArray} {n : Nat} {r : Option FieldType} (h1 : Cond.methodLink own idx y ∈ wA) (h : Cond.static y ∈ wA ∧ Cond.initialized y.cls ∈ wA ∧ Cond.code y c n r ∈ wA) : GoodIn wA (va_wsS own idx y (wm y c n r)) := by
  intro w hw
  unfold va_wsS at hw
  rcases List.mem_append.mp hw with hw | hw
  · simp only [List.mem_cons, List.not_mem_nil, or_false] at hw
    rcases hw with e | e | e <;> rw [e]
    · exact gA _ h1
    · exact gA _ h.1
    · exact gA _ h.2.1
  · exact gm h.2.2 _ hw
/-- a picture of the heap that the machine's own changes leave -/
def Mv (X : State → Heap → Prop) : Prop := ∀ (u U : State) (H : Heap), u.vm.Alike U.vm → X u H → X U H
theorem mvBlind {X : State → Heap → Prop} {av : List Value} (h : Mv X) : FrameBlind (va_Pc av (fun U => X U U.heap)) := by
  intro a U g mk q
  exact ⟨q.1, h U (U.calling g mk a) U.heap (Vm.Alike.refl U.vm) q.2⟩
theorem mvPre {X : State → Heap → Prop} {s U : State} {H : Heap} {av : List Value} (h : Mv X) (hX : X s H) (hU : U.heap = H) (hW : s.WarmedH U.vm) : va_Pc av (fun U => X U U.heap) av.toArray U := by
  refine ⟨rfl, ?_⟩
  show X U U.heap
  rw [hU]
  exact h s U H hW.alike hX
theorem Mv.and {X Y : State → Heap → Prop} (h1 : Mv X) (h2 : Mv Y) : Mv (fun U H => X U H ∧ Y U H) := fun u U H a h => ⟨h1 u U H a h.1, h2 u U H a h.2⟩
theorem Mv.const {P : Prop} : Mv (fun _ _ => P) := fun _ _ _ _ h => h
/-- a method's start -/
theorem mt {l : Launch} {y : MethodName} {cc : ByteArray} {maxL : Nat} {ret : Option FieldType} {rm : Room} {av : List Value} {Pre : State → Prop} {Qc : Array Value → State → Outcome → State → Prop} {mc ms : Nat} {free : Addr → Prop}
    (hy : plainName y.cls = true) (hsz : (lg_sl av).length ≤ maxL)
    (body : ∀ (p : Program) (e : Env) (s : State) (m : MethodId) (below : List Frame) (meth : Method) (c : Code) (ls : Array Slot), CallFix p m c cc maxL s av.toArray wA y.cls → meth.sig.returnType = ret → meth.locks = false → meth.name = y.name → Pre s → lv_has ls maxL (lv_args 0 av) →
      W p l e rm s m av.toArray below meth c s.heap [] 0 0 (MQ below Qc av.toArray s mc ms free) (F0 m 0 ls [])) : Met l y (wm y cc maxL ret) rm (va_Pc av Pre) Qc mc ms free := by
  refine Met.ofW (cc := cc) (maxL := maxL) (ret := ret) hy rfl ?_
  intro p e s m args below meth c s₁ B hml hv
  obtain ⟨rfl, hp⟩ := hv
  have hts := atoms_spec (ws := wm y cc maxL ret) B.pre
  have hl := lv_entry av hsz
  rw [lg_entry_eq]
  exact body p e s m below meth c _ ⟨B.exec, B.bytes, hml, findClass_of_methodNamed B.named, fun w h => hts w (List.mem_cons_of_mem _ h)⟩ B.returns B.notSynchronized (name_of_methodNamed B.named B.method).1 hp hl
/-- the same for a method of the JDK's own that is no native one -/
theorem mtF {l : Launch} {y : MethodName} {cc : ByteArray} {maxL : Nat} {ret : Option FieldType} {rm : Room} {av : List Value} {Pre : State → Prop} {Qc : Array Value → State → Outcome → State → Prop} {mc ms : Nat} {free : Addr → Prop}
    (hy : plainFor y = true) (hsz : (lg_sl av).length ≤ maxL)
    (body : ∀ (p : Program) (e : Env) (s : State) (m : MethodId) (below : List Frame) (meth : Method) (c : Code) (ls : Array Slot), CallFix p m c cc maxL s av.toArray wA y.cls → meth.sig.returnType = ret → meth.locks = false → meth.name = y.name → Pre s → lv_has ls maxL (lv_args 0 av) →
      W p l e rm s m av.toArray below meth c s.heap [] 0 0 (MQ below Qc av.toArray s mc ms free) (F0 m 0 ls [])) : Met l y (wm y cc maxL ret) rm (va_Pc av Pre) Qc mc ms free := by
  refine MetFree.of_bodySF (code := cc) (maxLocals := maxL) (ret := ret) hy ?_ ?_
  · intro args s m h hn
    obtain ⟨meth, c, h1, h2, h3, h4, h5, h6, -, -⟩ := Cond.code_spec hn (atoms_spec (ws := wm y cc maxL ret) h _ List.mem_cons_self)
    exact ⟨meth, c, h1, h2, h3, h4, h5, h6⟩
  · intro p e s m args below meth c s₁ B hml hP _
    obtain ⟨rfl, hp⟩ := hP
    have hts := atoms_spec (ws := wm y cc maxL ret) B.pre
    have hl := lv_entry av hsz
    have hh0 : s₁.heap = s.heap := by rw [B.state]; rfl
    have K := body p e s m below meth c _ ⟨B.exec, B.bytes, hml, findClass_of_methodNamed B.named, fun w h => hts w (List.mem_cons_of_mem _ h)⟩ B.returns B.notSynchronized (name_of_methodNamed B.named B.method).1 hp hl
    rw [← lg_entry_eq] at K
    obtain ⟨t, a1, o, b1, b2, b3⟩ := K s₁ hh0 (Stand.of_body B)
    exact ⟨t, o, a1, b1, b2, ⟨b3.1, b3.2⟩⟩
section OWN
variable {p : Program} {l : Launch} {e : Env} {R : Room} {s : State} {m : MethodId} {args : Array Value} {below : List Frame} {meth : Method} {c : Code} {H : Heap} {locs : List Loc} {cells slots : Nat} {Q : State → Prop}
variable {cc : ByteArray} {nL pc idx k maxL : Nat} {ls : Array Slot} {own C : String} {y : MethodName} {bytes : ByteArray} {ret : Option FieldType} {rm : Room} {b : Addr} {As rest st0 : List Value} {X : State → Heap → Prop}
/-- loops: a measure that falls -/
theorem lpW {σ : Type} {head : Nat} (I : σ → Array Slot → Prop) (μ : σ → Nat)
    (step : ∀ (x : σ) (ls : Array Slot), I x ls → (∀ (x' : σ) (ls' : Array Slot), μ x' < μ x → I x' ls' → W p l e R s m args below meth c H locs cells slots Q (F0 m head ls' st0)) → W p l e R s m args below meth c H locs cells slots Q (F0 m head ls st0))
    (x : σ) (h : I x ls) : W p l e R s m args below meth c H locs cells slots Q (F0 m head ls st0) := by
  have K : ∀ (n : Nat) (x : σ) (ls : Array Slot), μ x < n → I x ls → W p l e R s m args below meth c H locs cells slots Q (F0 m head ls st0) := by
    intro n
    induction n with
    | zero => intro x ls h; exact absurd h (Nat.not_lt_zero _)
    | succ n ih => intro x ls hn hI; exact step x ls hI (fun x' ls' h1 h2 => ih x' ls' (by omega) h2)
  exact K (μ x + 1) x ls (Nat.lt_succ_self _) h
theorem lpH {σ : Type} {head : Nat} (I : σ → Array Slot → Heap → List Loc → Prop) (μ : σ → Nat)
    (step : ∀ (x : σ) (ls : Array Slot) (H : Heap) (locs : List Loc), I x ls H locs → (∀ (x' : σ) (ls' : Array Slot) (H' : Heap) (locs' : List Loc), μ x' < μ x → I x' ls' H' locs' → W p l e R s m args below meth c H' locs' cells slots Q (F0 m head ls' st0)) → W p l e R s m args below meth c H locs cells slots Q (F0 m head ls st0))
    (x : σ) (h : I x ls H locs) : W p l e R s m args below meth c H locs cells slots Q (F0 m head ls st0) := by
  have K : ∀ (n : Nat) (x : σ) (ls : Array Slot) (H : Heap) (locs : List Loc), μ x < n → I x ls H locs → W p l e R s m args below meth c H locs cells slots Q (F0 m head ls st0) := by
    intro n
    induction n with
    | zero => intro x ls H locs h; exact absurd h (Nat.not_lt_zero _)
    | succ n ih => intro x ls H locs hn hI; exact step x ls H locs hI (fun x' ls' H' locs' h1 h2 => ih x' ls' H' locs' (by omega) h2)
  exact K (μ x + 1) x ls H locs (Nat.lt_succ_self _) h
theorem lpH2 {σ τ : Type} {head : Nat} (I : σ → τ → Array Slot → Heap → List Loc → Prop) (μ : σ → τ → Nat)
    (step : ∀ (x : σ) (y : τ) (ls : Array Slot) (H : Heap) (locs : List Loc), I x y ls H locs → (∀ (x' : σ) (y' : τ) (ls' : Array Slot) (H' : Heap) (locs' : List Loc), μ x' y' < μ x y → I x' y' ls' H' locs' → W p l e R s m args below meth c H' locs' cells slots Q (F0 m head ls' st0)) → W p l e R s m args below meth c H locs cells slots Q (F0 m head ls st0))
    (x : σ) (y : τ) (h : I x y ls H locs) : W p l e R s m args below meth c H locs cells slots Q (F0 m head ls st0) := by
  have K : ∀ (n : Nat) (x : σ) (y : τ) (ls : Array Slot) (H : Heap) (locs : List Loc), μ x y < n → I x y ls H locs → W p l e R s m args below meth c H locs cells slots Q (F0 m head ls st0) := by
    intro n
    induction n with
    | zero => intro x y ls H locs h; exact absurd h (Nat.not_lt_zero _)
    | succ n ih => intro x y ls H locs hn hI; exact step x y ls H locs hI (fun x' y' ls' H' locs' h1 h2 => ih x' y' ls' H' locs' (by omega) h2)
  exact K (μ x y + 1) x y ls H locs (Nat.lt_succ_self _) h
theorem wEnd {t : State} (hmv : Mv X) (hX : X s H) (ht : t.heap = H) (hW : s.WarmedH t.vm) : X t t.heap := by rw [ht]; exact hmv s t H hW.alike hX
theorem topI {x y : Int32} (h : x = y) (k : W p l e R s m args below meth c H locs cells slots Q (F0 m pc ls (.int y :: rest))) : W p l e R s m args below meth c H locs cells slots Q (F0 m pc ls (.int x :: rest)) := by subst h; exact k
theorem topL {x y : Int64} (h : x = y) (k : W p l e R s m args below meth c H locs cells slots Q (F0 m pc ls (.long y :: rest))) : W p l e R s m args below meth c H locs cells slots Q (F0 m pc ls (.long x :: rest)) := by subst h; exact k
abbrev Rc (C : String) (b : Addr) (s : State) (H : Heap) : Prop := ∃ cellB : Cell, H[b]? = some cellB ∧ cellB.vm.isStatics = false ∧ s.vm.findClass C = some cellB.cls
variable {σ : Type} {X1 : σ → State → Heap → Prop} {A0 A1 : Nat → Prop} {H0 : Heap} {mc ms : Nat} {free : Addr → Prop}

/-! calls of readers: the heap stays -/
theorem cVi {post : Int32 → Prop} (hF : CallFix p m c cc nL s args wA own) (hM : Met l y (wm y bytes maxL ret) rm (va_Pc (.ref b :: As) (fun U => X U U.heap)) (vp_Si post) 0 0 (fun _ => False)) (hmv : Mv X) (hX : X s H) (hrc : Rc C b s H) (hi : IM C y bytes maxL ret k) (hlk : Cond.methodLink own idx y ∈ wA)
    (h0 : rm.cells = 0 ∧ rm.slots = 0) (hR : rm.frames + 1 ≤ R.frames ∧ 8 + (maxL + 11) + rm.locals ≤ R.locals) (hk : As.length = k) (hsz : ls.size = nL) (hst : st0 = As.reverse ++ .ref b :: rest) (hW : (rest.map fun v => v.category).sum ≤ 8) (hcs : cells ≤ R.cells ∧ slots ≤ R.slots) (hdg : decode cc pc = .ok (.invokevirtual idx, 3))
    (kk : ∀ r : Int32, post r → W p l e R s m args below meth c H locs cells slots Q (F0 m (pc + 3) ls (.int r :: rest))) : W p l e R s m args below meth c H locs cells slots Q (F0 m pc ls st0) :=
  vp_callSi (W.runV hF hM (cwV k hF.2.2.2.2 (gV hlk hi.1) rfl h0.1 h0.2 hi.2 hR) ⟨mvBlind hmv, hrc, fun U hU hW => mvPre hmv hX hU hW⟩ rfl hk hsz hst (lv_room hW) hdg hcs) kk
theorem cVl {post : Int64 → Prop} (hF : CallFix p m c cc nL s args wA own) (hM : Met l y (wm y bytes maxL ret) rm (va_Pc (.ref b :: As) (fun U => X U U.heap)) (vp_Sl post) 0 0 (fun _ => False)) (hmv : Mv X) (hX : X s H) (hrc : Rc C b s H) (hi : IM C y bytes maxL ret k) (hlk : Cond.methodLink own idx y ∈ wA)
    (h0 : rm.cells = 0 ∧ rm.slots = 0) (hR : rm.frames + 1 ≤ R.frames ∧ 8 + (maxL + 11) + rm.locals ≤ R.locals) (hk : As.length = k) (hsz : ls.size = nL) (hst : st0 = As.reverse ++ .ref b :: rest) (hW : (rest.map fun v => v.category).sum ≤ 8) (hcs : cells ≤ R.cells ∧ slots ≤ R.slots) (hdg : decode cc pc = .ok (.invokevirtual idx, 3))
    (kk : ∀ r : Int64, post r → W p l e R s m args below meth c H locs cells slots Q (F0 m (pc + 3) ls (.long r :: rest))) : W p l e R s m args below meth c H locs cells slots Q (F0 m pc ls st0) :=
  vp_callSl (W.runV hF hM (cwV k hF.2.2.2.2 (gV hlk hi.1) rfl h0.1 h0.2 hi.2 hR) ⟨mvBlind hmv, hrc, fun U hU hW => mvPre hmv hX hU hW⟩ rfl hk hsz hst (lv_room hW) hdg hcs) kk
theorem cVd {post : UInt64 → Prop} (hF : CallFix p m c cc nL s args wA own) (hM : Met l y (wm y bytes maxL ret) rm (va_Pc (.ref b :: As) (fun U => X U U.heap)) (vp_Sd post) 0 0 (fun _ => False)) (hmv : Mv X) (hX : X s H) (hrc : Rc C b s H) (hi : IM C y bytes maxL ret k) (hlk : Cond.methodLink own idx y ∈ wA)
    (h0 : rm.cells = 0 ∧ rm.slots = 0) (hR : rm.frames + 1 ≤ R.frames ∧ 8 + (maxL + 11) + rm.locals ≤ R.locals) (hk : As.length = k) (hsz : ls.size = nL) (hst : st0 = As.reverse ++ .ref b :: rest) (hW : (rest.map fun v => v.category).sum ≤ 8) (hcs : cells ≤ R.cells ∧ slots ≤ R.slots) (hdg : decode cc pc = .ok (.invokevirtual idx, 3))
    (kk : ∀ r : UInt64, post r → W p l e R s m args below meth c H locs cells slots Q (F0 m (pc + 3) ls (.double r :: rest))) : W p l e R s m args below meth c H locs cells slots Q (F0 m pc ls st0) :=
  vp_callSd (W.runV hF hM (cwV k hF.2.2.2.2 (gV hlk hi.1) rfl h0.1 h0.2 hi.2 hR) ⟨mvBlind hmv, hrc, fun U hU hW => mvPre hmv hX hU hW⟩ rfl hk hsz hst (lv_room hW) hdg hcs) kk
theorem cVv {post : Unit → Prop} (hF : CallFix p m c cc nL s args wA own) (hM : Met l y (wm y bytes maxL ret) rm (va_Pc (.ref b :: As) (fun U => X U U.heap)) (va_Sv post) 0 0 (fun _ => False)) (hmv : Mv X) (hX : X s H) (hrc : Rc C b s H) (hi : IM C y bytes maxL ret k) (hlk : Cond.methodLink own idx y ∈ wA)
    (h0 : rm.cells = 0 ∧ rm.slots = 0) (hR : rm.frames + 1 ≤ R.frames ∧ 8 + (maxL + 11) + rm.locals ≤ R.locals) (hk : As.length = k) (hsz : ls.size = nL) (hst : st0 = As.reverse ++ .ref b :: rest) (hW : (rest.map fun v => v.category).sum ≤ 8) (hcs : cells ≤ R.cells ∧ slots ≤ R.slots) (hdg : decode cc pc = .ok (.invokevirtual idx, 3))
    (kk : W p l e R s m args below meth c H locs cells slots Q (F0 m (pc + 3) ls rest)) : W p l e R s m args below meth c H locs cells slots Q (F0 m pc ls st0) :=
  va_csv (W.runV hF hM (cwV k hF.2.2.2.2 (gV hlk hi.1) rfl h0.1 h0.2 hi.2 hR) ⟨mvBlind hmv, hrc, fun U hU hW => mvPre hmv hX hU hW⟩ rfl hk hsz hst (lv_room hW) hdg hcs) (fun _ => kk)
theorem cSi {post : Int32 → Prop} (hF : CallFix p m c cc nL s args wA own) (hM : Met l y (wm y bytes maxL ret) rm (va_Pc As (fun U => X U U.heap)) (vp_Si post) 0 0 (fun _ => False)) (hmv : Mv X) (hX : X s H) (hi : SM y bytes maxL ret k) (hlk : Cond.methodLink own idx y ∈ wA)
    (h0 : rm.cells = 0 ∧ rm.slots = 0) (hR : rm.frames + 1 ≤ R.frames ∧ 8 + (maxL + 11) + rm.locals ≤ R.locals) (hk : As.length = k) (hsz : ls.size = nL) (hst : st0 = As.reverse ++ rest) (hW : (rest.map fun v => v.category).sum ≤ 8) (hcs : cells ≤ R.cells ∧ slots ≤ R.slots) (hdg : decode cc pc = .ok (.invokestatic idx, 3))
    (kk : ∀ r : Int32, post r → W p l e R s m args below meth c H locs cells slots Q (F0 m (pc + 3) ls (.int r :: rest))) : W p l e R s m args below meth c H locs cells slots Q (F0 m pc ls st0) :=
  vp_callSi (W.runS hF hM (va_cwS k hF.2.2.2.2 (gS hlk hi.1) rfl h0.1 h0.2 hi.2 hR) ⟨mvBlind hmv, fun U hU hW => mvPre hmv hX hU hW⟩ rfl hk hsz hst (lv_room hW) hdg hcs) kk
theorem cSl {post : Int64 → Prop} (hF : CallFix p m c cc nL s args wA own) (hM : Met l y (wm y bytes maxL ret) rm (va_Pc As (fun U => X U U.heap)) (vp_Sl post) 0 0 (fun _ => False)) (hmv : Mv X) (hX : X s H) (hi : SM y bytes maxL ret k) (hlk : Cond.methodLink own idx y ∈ wA)
    (h0 : rm.cells = 0 ∧ rm.slots = 0) (hR : rm.frames + 1 ≤ R.frames ∧ 8 + (maxL + 11) + rm.locals ≤ R.locals) (hk : As.length = k) (hsz : ls.size = nL) (hst : st0 = As.reverse ++ rest) (hW : (rest.map fun v => v.category).sum ≤ 8) (hcs : cells ≤ R.cells ∧ slots ≤ R.slots) (hdg : decode cc pc = .ok (.invokestatic idx, 3))
    (kk : ∀ r : Int64, post r → W p l e R s m args below meth c H locs cells slots Q (F0 m (pc + 3) ls (.long r :: rest))) : W p l e R s m args below meth c H locs cells slots Q (F0 m pc ls st0) :=
  vp_callSl (W.runS hF hM (va_cwS k hF.2.2.2.2 (gS hlk hi.1) rfl h0.1 h0.2 hi.2 hR) ⟨mvBlind hmv, fun U hU hW => mvPre hmv hX hU hW⟩ rfl hk hsz hst (lv_room hW) hdg hcs) kk
theorem cSd {post : UInt64 → Prop} (hF : CallFix p m c cc nL s args wA own) (hM : Met l y (wm y bytes maxL ret) rm (va_Pc As (fun U => X U U.heap)) (vp_Sd post) 0 0 (fun _ => False)) (hmv : Mv X) (hX : X s H) (hi : SM y bytes maxL ret k) (hlk : Cond.methodLink own idx y ∈ wA)
    (h0 : rm.cells = 0 ∧ rm.slots = 0) (hR : rm.frames + 1 ≤ R.frames ∧ 8 + (maxL + 11) + rm.locals ≤ R.locals) (hk : As.length = k) (hsz : ls.size = nL) (hst : st0 = As.reverse ++ rest) (hW : (rest.map fun v => v.category).sum ≤ 8) (hcs : cells ≤ R.cells ∧ slots ≤ R.slots) (hdg : decode cc pc = .ok (.invokestatic idx, 3))
    (kk : ∀ r : UInt64, post r → W p l e R s m args below meth c H locs cells slots Q (F0 m (pc + 3) ls (.double r :: rest))) : W p l e R s m args below meth c H locs cells slots Q (F0 m pc ls st0) :=
  vp_callSd (W.runS hF hM (va_cwS k hF.2.2.2.2 (gS hlk hi.1) rfl h0.1 h0.2 hi.2 hR) ⟨mvBlind hmv, fun U hU hW => mvPre hmv hX hU hW⟩ rfl hk hsz hst (lv_room hW) hdg hcs) kk
theorem cSv {post : Unit → Prop} (hF : CallFix p m c cc nL s args wA own) (hM : Met l y (wm y bytes maxL ret) rm (va_Pc As (fun U => X U U.heap)) (va_Sv post) 0 0 (fun _ => False)) (hmv : Mv X) (hX : X s H) (hi : SM y bytes maxL ret k) (hlk : Cond.methodLink own idx y ∈ wA)
    (h0 : rm.cells = 0 ∧ rm.slots = 0) (hR : rm.frames + 1 ≤ R.frames ∧ 8 + (maxL + 11) + rm.locals ≤ R.locals) (hk : As.length = k) (hsz : ls.size = nL) (hst : st0 = As.reverse ++ rest) (hW : (rest.map fun v => v.category).sum ≤ 8) (hcs : cells ≤ R.cells ∧ slots ≤ R.slots) (hdg : decode cc pc = .ok (.invokestatic idx, 3))
    (kk : W p l e R s m args below meth c H locs cells slots Q (F0 m (pc + 3) ls rest)) : W p l e R s m args below meth c H locs cells slots Q (F0 m pc ls st0) :=
  va_csv (W.runS hF hM (va_cwS k hF.2.2.2.2 (gS hlk hi.1) rfl h0.1 h0.2 hi.2 hR) ⟨mvBlind hmv, fun U hU hW => mvPre hmv hX hU hW⟩ rfl hk hsz hst (lv_room hW) hdg hcs) (fun _ => kk)
/-! calls of writers -/
theorem wVi {post : Int32 → σ → Prop} (hF : CallFix p m c cc nL s args wA own) (hM : Met l y (wm y bytes maxL ret) rm (va_Pc (.ref b :: As) (fun U => X U U.heap)) (va_Qi post (fun u U => X1 u U U.heap) A1) mc ms free) (hmv : Mv X) (hmv1 : ∀ u, Mv (X1 u)) (hX : X s H) (hrc : Rc C b s H) (hi : IM C y bytes maxL ret k) (hlk : Cond.methodLink own idx y ∈ wA)
    (h0 : rm.cells = mc ∧ rm.slots = ms) (hR : rm.frames + 1 ≤ R.frames ∧ 8 + (maxL + 11) + rm.locals ≤ R.locals) (hk : As.length = k) (hsz : ls.size = nL) (hst : st0 = As.reverse ++ .ref b :: rest) (hW : (rest.map fun v => v.category).sum ≤ 8) (hcs : cells + mc ≤ R.cells ∧ slots + ms ≤ R.slots) (hS : va_S A0 H0 H locs) (hA : ∀ q, q < H.size → A1 q → A0 q) (hf : ∀ q, free q → A0 q) (hdg : decode cc pc = .ok (.invokevirtual idx, 3))
    (kk : ∀ (r : Int32) (u : σ) (H1 : Heap) (locs1 : List Loc), post r u → X1 u s H1 → H.size ≤ H1.size → (∀ q : Nat, q < H.size → ¬ A1 q → H1[q]? = H[q]?) → va_S A0 H0 H1 locs1 → W p l e R s m args below meth c H1 locs1 (cells + mc) (slots + ms) Q (F0 m (pc + 3) ls (.int r :: rest))) : W p l e R s m args below meth c H locs cells slots Q (F0 m pc ls st0) :=
  va_calli (va_runV hF hM (cwV k hF.2.2.2.2 (gV hlk hi.1) rfl h0.1 h0.2 hi.2 hR) ⟨mvBlind hmv, hrc, fun U hU hW => mvPre hmv hX hU hW⟩ rfl hk hsz hst (lv_room hW) hdg hcs) hS hA hf (fun r u t H1 locs1 ht hvm hp hB hz hk1 hS1 => kk r u H1 locs1 hp (by subst ht; exact hmv1 u t s t.heap hvm.symm hB) hz hk1 hS1)
theorem wVl {post : Int64 → σ → Prop} (hF : CallFix p m c cc nL s args wA own) (hM : Met l y (wm y bytes maxL ret) rm (va_Pc (.ref b :: As) (fun U => X U U.heap)) (va_Ql post (fun u U => X1 u U U.heap) A1) mc ms free) (hmv : Mv X) (hmv1 : ∀ u, Mv (X1 u)) (hX : X s H) (hrc : Rc C b s H) (hi : IM C y bytes maxL ret k) (hlk : Cond.methodLink own idx y ∈ wA)
    (h0 : rm.cells = mc ∧ rm.slots = ms) (hR : rm.frames + 1 ≤ R.frames ∧ 8 + (maxL + 11) + rm.locals ≤ R.locals) (hk : As.length = k) (hsz : ls.size = nL) (hst : st0 = As.reverse ++ .ref b :: rest) (hW : (rest.map fun v => v.category).sum ≤ 8) (hcs : cells + mc ≤ R.cells ∧ slots + ms ≤ R.slots) (hS : va_S A0 H0 H locs) (hA : ∀ q, q < H.size → A1 q → A0 q) (hf : ∀ q, free q → A0 q) (hdg : decode cc pc = .ok (.invokevirtual idx, 3))
    (kk : ∀ (r : Int64) (u : σ) (H1 : Heap) (locs1 : List Loc), post r u → X1 u s H1 → H.size ≤ H1.size → (∀ q : Nat, q < H.size → ¬ A1 q → H1[q]? = H[q]?) → va_S A0 H0 H1 locs1 → W p l e R s m args below meth c H1 locs1 (cells + mc) (slots + ms) Q (F0 m (pc + 3) ls (.long r :: rest))) : W p l e R s m args below meth c H locs cells slots Q (F0 m pc ls st0) :=
  va_calll (va_runV hF hM (cwV k hF.2.2.2.2 (gV hlk hi.1) rfl h0.1 h0.2 hi.2 hR) ⟨mvBlind hmv, hrc, fun U hU hW => mvPre hmv hX hU hW⟩ rfl hk hsz hst (lv_room hW) hdg hcs) hS hA hf (fun r u t H1 locs1 ht hvm hp hB hz hk1 hS1 => kk r u H1 locs1 hp (by subst ht; exact hmv1 u t s t.heap hvm.symm hB) hz hk1 hS1)
theorem wVd {post : UInt64 → σ → Prop} (hF : CallFix p m c cc nL s args wA own) (hM : Met l y (wm y bytes maxL ret) rm (va_Pc (.ref b :: As) (fun U => X U U.heap)) (va_Qd post (fun u U => X1 u U U.heap) A1) mc ms free) (hmv : Mv X) (hmv1 : ∀ u, Mv (X1 u)) (hX : X s H) (hrc : Rc C b s H) (hi : IM C y bytes maxL ret k) (hlk : Cond.methodLink own idx y ∈ wA)
    (h0 : rm.cells = mc ∧ rm.slots = ms) (hR : rm.frames + 1 ≤ R.frames ∧ 8 + (maxL + 11) + rm.locals ≤ R.locals) (hk : As.length = k) (hsz : ls.size = nL) (hst : st0 = As.reverse ++ .ref b :: rest) (hW : (rest.map fun v => v.category).sum ≤ 8) (hcs : cells + mc ≤ R.cells ∧ slots + ms ≤ R.slots) (hS : va_S A0 H0 H locs) (hA : ∀ q, q < H.size → A1 q → A0 q) (hf : ∀ q, free q → A0 q) (hdg : decode cc pc = .ok (.invokevirtual idx, 3))
    (kk : ∀ (r : UInt64) (u : σ) (H1 : Heap) (locs1 : List Loc), post r u → X1 u s H1 → H.size ≤ H1.size → (∀ q : Nat, q < H.size → ¬ A1 q → H1[q]? = H[q]?) → va_S A0 H0 H1 locs1 → W p l e R s m args below meth c H1 locs1 (cells + mc) (slots + ms) Q (F0 m (pc + 3) ls (.double r :: rest))) : W p l e R s m args below meth c H locs cells slots Q (F0 m pc ls st0) :=
  va_calld (va_runV hF hM (cwV k hF.2.2.2.2 (gV hlk hi.1) rfl h0.1 h0.2 hi.2 hR) ⟨mvBlind hmv, hrc, fun U hU hW => mvPre hmv hX hU hW⟩ rfl hk hsz hst (lv_room hW) hdg hcs) hS hA hf (fun r u t H1 locs1 ht hvm hp hB hz hk1 hS1 => kk r u H1 locs1 hp (by subst ht; exact hmv1 u t s t.heap hvm.symm hB) hz hk1 hS1)
theorem wVv {post : σ → Prop} (hF : CallFix p m c cc nL s args wA own) (hM : Met l y (wm y bytes maxL ret) rm (va_Pc (.ref b :: As) (fun U => X U U.heap)) (va_Qv post (fun u U => X1 u U U.heap) A1) mc ms free) (hmv : Mv X) (hmv1 : ∀ u, Mv (X1 u)) (hX : X s H) (hrc : Rc C b s H) (hi : IM C y bytes maxL ret k) (hlk : Cond.methodLink own idx y ∈ wA)
    (h0 : rm.cells = mc ∧ rm.slots = ms) (hR : rm.frames + 1 ≤ R.frames ∧ 8 + (maxL + 11) + rm.locals ≤ R.locals) (hk : As.length = k) (hsz : ls.size = nL) (hst : st0 = As.reverse ++ .ref b :: rest) (hW : (rest.map fun v => v.category).sum ≤ 8) (hcs : cells + mc ≤ R.cells ∧ slots + ms ≤ R.slots) (hS : va_S A0 H0 H locs) (hA : ∀ q, q < H.size → A1 q → A0 q) (hf : ∀ q, free q → A0 q) (hdg : decode cc pc = .ok (.invokevirtual idx, 3))
    (kk : ∀ (u : σ) (H1 : Heap) (locs1 : List Loc), post u → X1 u s H1 → H.size ≤ H1.size → (∀ q : Nat, q < H.size → ¬ A1 q → H1[q]? = H[q]?) → va_S A0 H0 H1 locs1 → W p l e R s m args below meth c H1 locs1 (cells + mc) (slots + ms) Q (F0 m (pc + 3) ls rest)) : W p l e R s m args below meth c H locs cells slots Q (F0 m pc ls st0) :=
  va_callv (va_runV hF hM (cwV k hF.2.2.2.2 (gV hlk hi.1) rfl h0.1 h0.2 hi.2 hR) ⟨mvBlind hmv, hrc, fun U hU hW => mvPre hmv hX hU hW⟩ rfl hk hsz hst (lv_room hW) hdg hcs) hS hA hf (fun u t H1 locs1 ht hvm hp hB hz hk1 hS1 => kk u H1 locs1 hp (by subst ht; exact hmv1 u t s t.heap hvm.symm hB) hz hk1 hS1)
theorem wSi {post : Int32 → σ → Prop} (hF : CallFix p m c cc nL s args wA own) (hM : Met l y (wm y bytes maxL ret) rm (va_Pc As (fun U => X U U.heap)) (va_Qi post (fun u U => X1 u U U.heap) A1) mc ms free) (hmv : Mv X) (hmv1 : ∀ u, Mv (X1 u)) (hX : X s H) (hi : SM y bytes maxL ret k) (hlk : Cond.methodLink own idx y ∈ wA)
    (h0 : rm.cells = mc ∧ rm.slots = ms) (hR : rm.frames + 1 ≤ R.frames ∧ 8 + (maxL + 11) + rm.locals ≤ R.locals) (hk : As.length = k) (hsz : ls.size = nL) (hst : st0 = As.reverse ++ rest) (hW : (rest.map fun v => v.category).sum ≤ 8) (hcs : cells + mc ≤ R.cells ∧ slots + ms ≤ R.slots) (hS : va_S A0 H0 H locs) (hA : ∀ q, q < H.size → A1 q → A0 q) (hf : ∀ q, free q → A0 q) (hdg : decode cc pc = .ok (.invokestatic idx, 3))
    (kk : ∀ (r : Int32) (u : σ) (H1 : Heap) (locs1 : List Loc), post r u → X1 u s H1 → H.size ≤ H1.size → (∀ q : Nat, q < H.size → ¬ A1 q → H1[q]? = H[q]?) → va_S A0 H0 H1 locs1 → W p l e R s m args below meth c H1 locs1 (cells + mc) (slots + ms) Q (F0 m (pc + 3) ls (.int r :: rest))) : W p l e R s m args below meth c H locs cells slots Q (F0 m pc ls st0) :=
  va_calli (va_runS hF hM (va_cwS k hF.2.2.2.2 (gS hlk hi.1) rfl h0.1 h0.2 hi.2 hR) ⟨mvBlind hmv, fun U hU hW => mvPre hmv hX hU hW⟩ rfl hk hsz hst (lv_room hW) hdg hcs) hS hA hf (fun r u t H1 locs1 ht hvm hp hB hz hk1 hS1 => kk r u H1 locs1 hp (by subst ht; exact hmv1 u t s t.heap hvm.symm hB) hz hk1 hS1)
theorem wSl {post : Int64 → σ → Prop} (hF : CallFix p m c cc nL s args wA own) (hM : Met l y (wm y bytes maxL ret) rm (va_Pc As (fun U => X U U.heap)) (va_Ql post (fun u U => X1 u U U.heap) A1) mc ms free) (hmv : Mv X) (hmv1 : ∀ u, Mv (X1 u)) (hX : X s H) (hi : SM y bytes maxL ret k) (hlk : Cond.methodLink own idx y ∈ wA)
    (h0 : rm.cells = mc ∧ rm.slots = ms) (hR : rm.frames + 1 ≤ R.frames ∧ 8 + (maxL + 11) + rm.locals ≤ R.locals) (hk : As.length = k) (hsz : ls.size = nL) (hst : st0 = As.reverse ++ rest) (hW : (rest.map fun v => v.category).sum ≤ 8) (hcs : cells + mc ≤ R.cells ∧ slots + ms ≤ R.slots) (hS : va_S A0 H0 H locs) (hA : ∀ q, q < H.size → A1 q → A0 q) (hf : ∀ q, free q → A0 q) (hdg : decode cc pc = .ok (.invokestatic idx, 3))
    (kk : ∀ (r : Int64) (u : σ) (H1 : Heap) (locs1 : List Loc), post r u → X1 u s H1 → H.size ≤ H1.size → (∀ q : Nat, q < H.size → ¬ A1 q → H1[q]? = H[q]?) → va_S A0 H0 H1 locs1 → W p l e R s m args below meth c H1 locs1 (cells + mc) (slots + ms) Q (F0 m (pc + 3) ls (.long r :: rest))) : W p l e R s m args below meth c H locs cells slots Q (F0 m pc ls st0) :=
  va_calll (va_runS hF hM (va_cwS k hF.2.2.2.2 (gS hlk hi.1) rfl h0.1 h0.2 hi.2 hR) ⟨mvBlind hmv, fun U hU hW => mvPre hmv hX hU hW⟩ rfl hk hsz hst (lv_room hW) hdg hcs) hS hA hf (fun r u t H1 locs1 ht hvm hp hB hz hk1 hS1 => kk r u H1 locs1 hp (by subst ht; exact hmv1 u t s t.heap hvm.symm hB) hz hk1 hS1)
theorem wSd {post : UInt64 → σ → Prop} (hF : CallFix p m c cc nL s args wA own) (hM : Met l y (wm y bytes maxL ret) rm (va_Pc As (fun U => X U U.heap)) (va_Qd post (fun u U => X1 u U U.heap) A1) mc ms free) (hmv : Mv X) (hmv1 : ∀ u, Mv (X1 u)) (hX : X s H) (hi : SM y bytes maxL ret k) (hlk : Cond.methodLink own idx y ∈ wA)
    (h0 : rm.cells = mc ∧ rm.slots = ms) (hR : rm.frames + 1 ≤ R.frames ∧ 8 + (maxL + 11) + rm.locals ≤ R.locals) (hk : As.length = k) (hsz : ls.size = nL) (hst : st0 = As.reverse ++ rest) (hW : (rest.map fun v => v.category).sum ≤ 8) (hcs : cells + mc ≤ R.cells ∧ slots + ms ≤ R.slots) (hS : va_S A0 H0 H locs) (hA : ∀ q, q < H.size → A1 q → A0 q) (hf : ∀ q, free q → A0 q) (hdg : decode cc pc = .ok (.invokestatic idx, 3))
    (kk : ∀ (r : UInt64) (u : σ) (H1 : Heap) (locs1 : List Loc), post r u → X1 u s H1 → H.size ≤ H1.size → (∀ q : Nat, q < H.size → ¬ A1 q → H1[q]? = H[q]?) → va_S A0 H0 H1 locs1 → W p l e R s m args below meth c H1 locs1 (cells + mc) (slots + ms) Q (F0 m (pc + 3) ls (.double r :: rest))) : W p l e R s m args below meth c H locs cells slots Q (F0 m pc ls st0) :=
  va_calld (va_runS hF hM (va_cwS k hF.2.2.2.2 (gS hlk hi.1) rfl h0.1 h0.2 hi.2 hR) ⟨mvBlind hmv, fun U hU hW => mvPre hmv hX hU hW⟩ rfl hk hsz hst (lv_room hW) hdg hcs) hS hA hf (fun r u t H1 locs1 ht hvm hp hB hz hk1 hS1 => kk r u H1 locs1 hp (by subst ht; exact hmv1 u t s t.heap hvm.symm hB) hz hk1 hS1)
theorem wSv {post : σ → Prop} (hF : CallFix p m c cc nL s args wA own) (hM : Met l y (wm y bytes maxL ret) rm (va_Pc As (fun U => X U U.heap)) (va_Qv post (fun u U => X1 u U U.heap) A1) mc ms free) (hmv : Mv X) (hmv1 : ∀ u, Mv (X1 u)) (hX : X s H) (hi : SM y bytes maxL ret k) (hlk : Cond.methodLink own idx y ∈ wA)
    (h0 : rm.cells = mc ∧ rm.slots = ms) (hR : rm.frames + 1 ≤ R.frames ∧ 8 + (maxL + 11) + rm.locals ≤ R.locals) (hk : As.length = k) (hsz : ls.size = nL) (hst : st0 = As.reverse ++ rest) (hW : (rest.map fun v => v.category).sum ≤ 8) (hcs : cells + mc ≤ R.cells ∧ slots + ms ≤ R.slots) (hS : va_S A0 H0 H locs) (hA : ∀ q, q < H.size → A1 q → A0 q) (hf : ∀ q, free q → A0 q) (hdg : decode cc pc = .ok (.invokestatic idx, 3))
    (kk : ∀ (u : σ) (H1 : Heap) (locs1 : List Loc), post u → X1 u s H1 → H.size ≤ H1.size → (∀ q : Nat, q < H.size → ¬ A1 q → H1[q]? = H[q]?) → va_S A0 H0 H1 locs1 → W p l e R s m args below meth c H1 locs1 (cells + mc) (slots + ms) Q (F0 m (pc + 3) ls rest)) : W p l e R s m args below meth c H locs cells slots Q (F0 m pc ls st0) :=
  va_callv (va_runS hF hM (va_cwS k hF.2.2.2.2 (gS hlk hi.1) rfl h0.1 h0.2 hi.2 hR) ⟨mvBlind hmv, fun U hU hW => mvPre hmv hX hU hW⟩ rfl hk hsz hst (lv_room hW) hdg hcs) hS hA hf (fun u t H1 locs1 ht hvm hp hB hz hk1 hS1 => kk u H1 locs1 hp (by subst ht; exact hmv1 u t s t.heap hvm.symm hB) hz hk1 hS1)
end OWN
end
section
/-! WORLDS: the class's cells and the model's -/
def b2i (b : Bool) : Int32 := if b = true then 1 else 0
def ap (n : Nat) (q : Nat → Nat) : Prop := ∀ i j : Nat, i < n → j < n → q i = q j → i = j
def own (n : Nat) (q : Nat → Nat) : Nat → Prop := fun a => ∃ i : Nat, i < n ∧ a = q i
theorem apD {n : Nat} {q : Nat → Nat} {ws : va_W} (h : ap n q) (hw : ws.map Prod.fst = (List.range n).map q) : va_D (own n q) ws := by
  have g : ∀ (i : Nat) (p : Nat × va_E), ws[i]? = some p → i < n ∧ p.1 = q i := by
    intro i p hi
    have h1 : (ws.map Prod.fst)[i]? = some p.1 := by rw [List.getElem?_map, hi]; rfl
    rw [hw, List.getElem?_map] at h1
    have hlt : i < n := by
      rcases Nat.lt_or_ge i n with hc | hc
      · exact hc
      · rw [List.getElem?_eq_none (by simpa using hc)] at h1
        cases h1
    rw [List.getElem?_range hlt] at h1
    exact ⟨hlt, (Option.some.inj h1).symm⟩
  refine ⟨fun i j p r hi hj e => ?_, fun i p hi => ⟨i, (g i p hi).1, (g i p hi).2⟩⟩
  obtain ⟨h1, h2⟩ := g i p hi
  obtain ⟨h3, h4⟩ := g j r hj
  exact h i j h1 h3 (by rw [← h2, ← h4]; exact e)
theorem apA {n : Nat} {q : Nat → Nat} {ws : va_W} {A : Nat → Prop} (h : va_D (own n q) ws) (hA : ∀ a, own n q a → A a) : va_D A ws := ⟨h.1, fun k p hp => hA _ (h.2 k p hp)⟩
theorem apOf {n : Nat} {q : Nat → Nat} {ws : va_W} {A : Nat → Prop} (h : va_D A ws) (hw : ws.map Prod.fst = (List.range n).map q) : ap n q ∧ ∀ a, own n q a → A a := by
  have g : ∀ i, i < n → ∃ x : va_E, ws[i]? = some (q i, x) := by
    intro i hi
    have h1 : (ws.map Prod.fst)[i]? = some (q i) := by
      rw [hw, List.getElem?_map, List.getElem?_range hi]
      rfl
    rw [List.getElem?_map] at h1
    cases h2 : ws[i]? with
    | none => rw [h2] at h1; cases h1
    | some p =>
      rw [h2] at h1
      exact ⟨p.2, by rw [← Option.some.inj h1]⟩
  refine ⟨fun i j hi hj e => ?_, fun a ha => ?_⟩
  · obtain ⟨x, hx⟩ := g i hi
    obtain ⟨y, hy⟩ := g j hj
    exact h.1 i j _ _ hx hy e
  · obtain ⟨i, hi, e⟩ := ha
    obtain ⟨x, hx⟩ := g i hi
    rw [e]
    exact h.2 i _ hx
theorem apP {n : Nat} {D : va_G} {q : Nat → Nat} {ws : va_W} {H : Heap} (hP : va_P D vwCl ws H) (hw : ws.map Prod.fst = (List.range n).map q) {a : Nat} (ha : own n q a) : a < H.size := by
  obtain ⟨i, hi, e⟩ := ha
  have h1 : (ws.map Prod.fst)[i]? = some a := by
    rw [hw, List.getElem?_map, List.getElem?_range hi, e]
    rfl
  rw [List.getElem?_map] at h1
  cases h2 : ws[i]? with
  | none => rw [h2] at h1; cases h1
  | some p =>
    rw [h2] at h1
    rw [← (Option.some.inj h1)]
    exact (hP i p h2).lt
theorem apK {n : Nat} {D : va_G} {q : Nat → Nat} {ws : va_W} {H H1 : Heap} (hP : va_P D vwCl ws H) (hw : ws.map Prod.fst = (List.range n).map q) (hk : ∀ a : Nat, own n q a → H1[a]? = H[a]?) : va_P D vwCl ws H1 := by
  intro k p hp
  refine (hP k p hp).kept (hk p.1 ?_)
  have h1 : (ws.map Prod.fst)[k]? = some p.1 := by rw [List.getElem?_map, hp]; rfl
  rw [hw, List.getElem?_map] at h1
  rcases Nat.lt_or_ge k n with hc | hc
  · rw [List.getElem?_range hc] at h1
    exact ⟨k, hc, (Option.some.inj h1).symm⟩
  · rw [List.getElem?_eq_none (by simpa using hc)] at h1
    cases h1
section ROWS
variable {p : Program} {l : Launch} {e : Env} {R : Room} {s : State} {m : MethodId} {args : Array Value} {below : List Frame} {meth : Method} {c : Code} {H : Heap} {locs : List Loc} {cells slots : Nat} {Q : State → Prop}
variable {cc : ByteArray} {nL pc idx a : Nat} {ls : Array Slot} {own0 : String} {rest : List Value} {D : va_G} {tys : List (ClassId × FieldType)} {ws : va_W}
/-- a number of an int array, its place a number -/
theorem aldI (hF : CallFix p m c cc nL s args wA own0) (hK : va_K D vwCl tys s) (hP : va_P D vwCl ws H) (q0 t0 : Nat) {cA : ClassId} {n : Nat} {f : Nat → Int32} (ha : ws[q0]? = some (a, .inl (cA, n, .inl f))) (ht : tys[t0]? = some (cA, .int)) (j : Nat) (hj : j < n) (hn : n < 2 ^ 31) {x : Int32} (hx : x = nI j) (hdg : decode cc pc = .ok (.iaload, 1))
    (kk : W p l e R s m args below meth c H locs cells slots Q (F0 m (pc + 1) ls (.int (f j) :: rest))) : W p l e R s m args below meth c H locs cells slots Q (F0 m pc ls (.int x :: .ref a :: rest)) := by
  subst hx
  refine va_iald hF.1 hF.2.1 hK hP q0 t0 ha ht (vp_in_nI hj hn) hdg ?_
  rw [nI_clamp (Nat.lt_trans hj hn)]
  exact kk
theorem aldZ (hF : CallFix p m c cc nL s args wA own0) (hK : va_K D vwCl tys s) (hP : va_P D vwCl ws H) (q0 t0 : Nat) {cA : ClassId} {n : Nat} {f : Nat → Int32} (ha : ws[q0]? = some (a, .inl (cA, n, .inl f))) (ht : tys[t0]? = some (cA, .boolean)) (j : Nat) (hj : j < n) (hn : n < 2 ^ 31) {x : Int32} (hx : x = nI j) (hdg : decode cc pc = .ok (.baload, 1))
    (kk : W p l e R s m args below meth c H locs cells slots Q (F0 m (pc + 1) ls (.int (f j) :: rest))) : W p l e R s m args below meth c H locs cells slots Q (F0 m pc ls (.int x :: .ref a :: rest)) := by
  subst hx
  refine va_zald hF.1 hF.2.1 hK hP q0 t0 ha ht (vp_in_nI hj hn) hdg ?_
  rw [nI_clamp (Nat.lt_trans hj hn)]
  exact kk
/-- a table that nobody writes -/
theorem aldT {A : Nat → Prop} {t N : Nat} {f : Nat → Value} (hF : CallFix p m c cc nL s args wA own0) (hT : va_T .int t N f A s s.heap) (hS : va_S A s.heap H locs) (j : Nat) (hj : j < N) (hn : N < 2 ^ 31) {x : Int32} (hx : x = nI j) {v : Int32} (hv : f j = .int v) (hdg : decode cc pc = .ok (.iaload, 1))
    (kk : W p l e R s m args below meth c H locs cells slots Q (F0 m (pc + 1) ls (.int v :: rest))) : W p l e R s m args below meth c H locs cells slots Q (F0 m pc ls (.int x :: .ref t :: rest)) := by
  subst hx
  exact va_ti hF.1 hF.2.1 hT hS (vp_in_nI hj hn) (by rw [nI_clamp (Nat.lt_trans hj hn)]; exact hv) hdg kk
end ROWS
def fC (q : Nat → Nat) (n : Int32) (st : Int32) (v : Nat → Nat → Int32) (mk : Nat → Bool) (w : Nat → Nat → Int32) : List Value := [.ref (q 1), .ref (q 2), .ref (q 3), .ref (q 4), .ref (q 5), .int n, .int st, .ref (q 6), .ref (q 7), .ref (q 8), .ref (q 9)]
def cwC (cyI cyZ : ClassId) (q : Nat → Nat) (n : Int32) (st : Int32) (v : Nat → Nat → Int32) (mk : Nat → Bool) (w : Nat → Nat → Int32) : va_W := [(q 0, .inr (0, fC q n st v mk w)), (q 1, .inl (cyI, 16, .inl (v 0))), (q 2, .inl (cyI, 16, .inl (v 1))), (q 3, .inl (cyI, 16, .inl (v 2))), (q 4, .inl (cyZ, 16, .inl (fun j => b2i (mk j)))), (q 5, .inl (cyI, 10, .inl (v 3))), (q 6, .inl (cyI, 16, .inl (w 0))), (q 7, .inl (cyI, 16, .inl (w 1))), (q 8, .inl (cyI, 16, .inl (w 2))), (q 9, .inl (cyI, 16, .inl (w 3)))]
def C0 (D : va_G) (cyI cyZ : ClassId) (q : Nat → Nat) (n : Int32) (st : Int32) (v : Nat → Nat → Int32) (mk : Nat → Bool) (w : Nat → Nat → Int32) : State → Heap → Prop := fun U H => va_P D vwCl (cwC cyI cyZ q n st v mk w) H ∧ va_K D vwCl [(cyI, .int), (cyZ, .boolean)] U ∧ ap 10 q
section CR
variable {p : Program} {l : Launch} {e : Env} {R : Room} {s : State} {m : MethodId} {args : Array Value} {below : List Frame} {meth : Method} {c : Code} {H : Heap} {locs : List Loc} {cells slots : Nat} {Q : State → Prop}
variable {cc : ByteArray} {nL pc idx : Nat} {ls : Array Slot} {rest : List Value} {D : va_G} {cyI cyZ : ClassId} {q : Nat → Nat} {n : Int32} {st : Int32} {v : Nat → Nat → Int32} {mk : Nat → Bool} {w : Nat → Nat → Int32} {H0 : Heap}
theorem C0.mv : Mv (C0 D cyI cyZ q n st v mk w) := fun _ _ _ a h => ⟨h.1, va_K.moved a h.2.1, h.2.2⟩
theorem C0.rc (h : C0 D cyI cyZ q n st v mk w s H) : Rc RX0 (q 0) s H := va_recv h.2.1 h.1 (ci := 0) (q0 := 0) rfl rfl
theorem C0.apart (h : C0 D cyI cyZ q n st v mk w s H) : va_D (own 10 q) (cwC cyI cyZ q n st v mk w) := apD h.2.2 rfl
theorem C0.lt (h : C0 D cyI cyZ q n st v mk w s H) {a : Nat} (ha : own 10 q a) : a < H.size := apP h.1 rfl ha
theorem C0.kept {H1 : Heap} (h : C0 D cyI cyZ q n st v mk w s H) (hk : ∀ a : Nat, own 10 q a → H1[a]? = H[a]?) : C0 D cyI cyZ q n st v mk w s H1 := ⟨apK h.1 rfl hk, h.2.1, h.2.2⟩
/-- a field is read -/
theorem C0.get (hF : CallFix p m c cc nL s args wA RX0) (hX : C0 D cyI cyZ q n st v mk w s H) (j : Nat) (hj : j < 11) {val : Value} (hv : (fC q n st v mk w)[j]? = some val) {nm ds : String} (hn : TX0 j = ("MapSongs", nm, ds, (TX0 j).2.2.2)) (hl : Cond.fieldLink RX0 idx "MapSongs" nm ds ∈ wA) (hdg : decode cc pc = .ok (.getfield idx, 3))
    (kk : W p l e R s m args below meth c H locs cells slots Q (F0 m (pc + 3) ls (val :: rest))) : W p l e R s m args below meth c H locs cells slots Q (F0 m pc ls (.ref (q 0) :: rest)) := by
  have h1 : (TX0 j).1 = "MapSongs" := by rw [hn]
  have h2 : (TX0 j).2.1 = nm := by rw [hn]
  have h3 : (TX0 j).2.2.1 = ds := by rw [hn]
  exact va_get (D := D) (ci := 0) (C := RX0) (T := TX0) (N := 11) (ref := "MapSongs") hF.1 hF.2.1 hF.2.2.2.2 wx0 hF.2.2.2.1 hX.2.1 hX.1 0 rfl rfl j hj (by rw [h2, h3]; exact hF.2.2.2.2 _ hl) (by rw [h1]; exact fun _ h9 => h9) hv hdg kk
theorem C0.put_n {x : Int32} (hF : CallFix p m c cc nL s args wA RX0) (hX : C0 D cyI cyZ q n st v mk w s H) {A : Nat → Prop} (hS : va_S A H0 H locs) (hl : Cond.fieldLink RX0 idx "MapSongs" "legCount" "I" ∈ wA) (hdg : decode cc pc = .ok (.putfield idx, 3))
    (kk : ∀ (H1 : Heap) (locs1 : List Loc), C0 D cyI cyZ q x st v mk w s H1 → va_S A H0 H1 locs1 → W p l e R s m args below meth c H1 locs1 cells slots Q (F0 m (pc + 3) ls rest)) (hAq : ∀ a, own 10 q a → A a := by exact fun _ h => h) : W p l e R s m args below meth c H locs cells slots Q (F0 m pc ls (.int x :: .ref (q 0) :: rest)) :=
  va_put (D := D) (ci := 0) (v := .int x) (ty := .int) (C := RX0) (T := TX0) (N := 11) hF.1 hF.2.1 hF.2.2.2.2 wx0 tyX0 tyX0_ok nmX0 hF.2.2.2.1 hX.2.1 hX.1 (apA hX.apart hAq) hS 0 rfl rfl 5 (by decide) (hF.2.2.2.2 _ hl) (fun _ h9 => h9) rfl (by decide +kernel) rfl rfl (Nat.le_of_ble_eq_true rfl) hdg (fun H1 locs1 hP _ hS1 => kk H1 locs1 ⟨hP, hX.2.1, hX.2.2⟩ hS1)
theorem C0.put_st {x : Int32} (hF : CallFix p m c cc nL s args wA RX0) (hX : C0 D cyI cyZ q n st v mk w s H) {A : Nat → Prop} (hS : va_S A H0 H locs) (hl : Cond.fieldLink RX0 idx "MapSongs" "songStep" "I" ∈ wA) (hdg : decode cc pc = .ok (.putfield idx, 3))
    (kk : ∀ (H1 : Heap) (locs1 : List Loc), C0 D cyI cyZ q n x v mk w s H1 → va_S A H0 H1 locs1 → W p l e R s m args below meth c H1 locs1 cells slots Q (F0 m (pc + 3) ls rest)) (hAq : ∀ a, own 10 q a → A a := by exact fun _ h => h) : W p l e R s m args below meth c H locs cells slots Q (F0 m pc ls (.int x :: .ref (q 0) :: rest)) :=
  va_put (D := D) (ci := 0) (v := .int x) (ty := .int) (C := RX0) (T := TX0) (N := 11) hF.1 hF.2.1 hF.2.2.2.2 wx0 tyX0 tyX0_ok nmX0 hF.2.2.2.1 hX.2.1 hX.1 (apA hX.apart hAq) hS 0 rfl rfl 6 (by decide) (hF.2.2.2.2 _ hl) (fun _ h9 => h9) rfl (by decide +kernel) rfl rfl (Nat.le_of_ble_eq_true rfl) hdg (fun H1 locs1 hP _ hS1 => kk H1 locs1 ⟨hP, hX.2.1, hX.2.2⟩ hS1)
theorem C0.st_v0 (hF : CallFix p m c cc nL s args wA RX0) (hX : C0 D cyI cyZ q n st v mk w s H) {A : Nat → Prop} (hS : va_S A H0 H locs) (j : Nat) (hj : j < 16) {i x : Int32} (hi : i = nI j) (hdg : decode cc pc = .ok (.iastore, 1))
    (kk : ∀ (H1 : Heap) (locs1 : List Loc), C0 D cyI cyZ q n st (va_up v 0 (upd (v 0) j x)) mk w s H1 → va_S A H0 H1 locs1 → W p l e R s m args below meth c H1 locs1 cells slots Q (F0 m (pc + 1) ls rest)) (hAq : ∀ a, own 10 q a → A a := by exact fun _ h => h) : W p l e R s m args below meth c H locs cells slots Q (F0 m pc ls (.int x :: .int i :: .ref (q 1) :: rest)) := by
  subst hi
  refine va_iast hF.1 hF.2.1 hX.2.1 hX.1 (apA hX.apart hAq) hS 1 0 rfl rfl (vp_in_nI hj (by decide)) hdg (fun H1 locs1 hP _ hS1 => kk H1 locs1 ⟨?_, hX.2.1, hX.2.2⟩ hS1)
  rw [nI_clamp (by omega)] at hP
  exact hP
theorem C0.st_v1 (hF : CallFix p m c cc nL s args wA RX0) (hX : C0 D cyI cyZ q n st v mk w s H) {A : Nat → Prop} (hS : va_S A H0 H locs) (j : Nat) (hj : j < 16) {i x : Int32} (hi : i = nI j) (hdg : decode cc pc = .ok (.iastore, 1))
    (kk : ∀ (H1 : Heap) (locs1 : List Loc), C0 D cyI cyZ q n st (va_up v 1 (upd (v 1) j x)) mk w s H1 → va_S A H0 H1 locs1 → W p l e R s m args below meth c H1 locs1 cells slots Q (F0 m (pc + 1) ls rest)) (hAq : ∀ a, own 10 q a → A a := by exact fun _ h => h) : W p l e R s m args below meth c H locs cells slots Q (F0 m pc ls (.int x :: .int i :: .ref (q 2) :: rest)) := by
  subst hi
  refine va_iast hF.1 hF.2.1 hX.2.1 hX.1 (apA hX.apart hAq) hS 2 0 rfl rfl (vp_in_nI hj (by decide)) hdg (fun H1 locs1 hP _ hS1 => kk H1 locs1 ⟨?_, hX.2.1, hX.2.2⟩ hS1)
  rw [nI_clamp (by omega)] at hP
  exact hP
theorem C0.st_v2 (hF : CallFix p m c cc nL s args wA RX0) (hX : C0 D cyI cyZ q n st v mk w s H) {A : Nat → Prop} (hS : va_S A H0 H locs) (j : Nat) (hj : j < 16) {i x : Int32} (hi : i = nI j) (hdg : decode cc pc = .ok (.iastore, 1))
    (kk : ∀ (H1 : Heap) (locs1 : List Loc), C0 D cyI cyZ q n st (va_up v 2 (upd (v 2) j x)) mk w s H1 → va_S A H0 H1 locs1 → W p l e R s m args below meth c H1 locs1 cells slots Q (F0 m (pc + 1) ls rest)) (hAq : ∀ a, own 10 q a → A a := by exact fun _ h => h) : W p l e R s m args below meth c H locs cells slots Q (F0 m pc ls (.int x :: .int i :: .ref (q 3) :: rest)) := by
  subst hi
  refine va_iast hF.1 hF.2.1 hX.2.1 hX.1 (apA hX.apart hAq) hS 3 0 rfl rfl (vp_in_nI hj (by decide)) hdg (fun H1 locs1 hP _ hS1 => kk H1 locs1 ⟨?_, hX.2.1, hX.2.2⟩ hS1)
  rw [nI_clamp (by omega)] at hP
  exact hP
theorem C0.st_mk_true (hF : CallFix p m c cc nL s args wA RX0) (hX : C0 D cyI cyZ q n st v mk w s H) {A : Nat → Prop} (hS : va_S A H0 H locs) (j : Nat) (hj : j < 16) {i x : Int32} (hi : i = nI j) (hv : x = b2i true) (hdg : decode cc pc = .ok (.bastore, 1))
    (kk : ∀ (H1 : Heap) (locs1 : List Loc), C0 D cyI cyZ q n st v (va_up mk j true) w s H1 → va_S A H0 H1 locs1 → W p l e R s m args below meth c H1 locs1 cells slots Q (F0 m (pc + 1) ls rest)) (hAq : ∀ a, own 10 q a → A a := by exact fun _ h => h) : W p l e R s m args below meth c H locs cells slots Q (F0 m pc ls (.int x :: .int i :: .ref (q 4) :: rest)) := by
  subst hi; subst hv
  refine va_zast hF.1 hF.2.1 hX.2.1 hX.1 (apA hX.apart hAq) hS 4 1 rfl rfl (vp_in_nI hj (by decide)) hdg (fun H1 locs1 hP _ hS1 => kk H1 locs1 ⟨?_, hX.2.1, hX.2.2⟩ hS1)
  rw [nI_clamp (by omega)] at hP
  have e9 : upd (fun j => b2i (mk j)) j (vp_nar .boolean (b2i true)) = fun i => b2i (va_up mk j true i) := by
    funext i
    by_cases hij : i = j
    · subst hij; simp only [upd, va_up, if_pos]; decide
    · simp only [upd, va_up, if_neg hij]
  rw [e9] at hP
  exact hP
theorem C0.st_mk_false (hF : CallFix p m c cc nL s args wA RX0) (hX : C0 D cyI cyZ q n st v mk w s H) {A : Nat → Prop} (hS : va_S A H0 H locs) (j : Nat) (hj : j < 16) {i x : Int32} (hi : i = nI j) (hv : x = b2i false) (hdg : decode cc pc = .ok (.bastore, 1))
    (kk : ∀ (H1 : Heap) (locs1 : List Loc), C0 D cyI cyZ q n st v (va_up mk j false) w s H1 → va_S A H0 H1 locs1 → W p l e R s m args below meth c H1 locs1 cells slots Q (F0 m (pc + 1) ls rest)) (hAq : ∀ a, own 10 q a → A a := by exact fun _ h => h) : W p l e R s m args below meth c H locs cells slots Q (F0 m pc ls (.int x :: .int i :: .ref (q 4) :: rest)) := by
  subst hi; subst hv
  refine va_zast hF.1 hF.2.1 hX.2.1 hX.1 (apA hX.apart hAq) hS 4 1 rfl rfl (vp_in_nI hj (by decide)) hdg (fun H1 locs1 hP _ hS1 => kk H1 locs1 ⟨?_, hX.2.1, hX.2.2⟩ hS1)
  rw [nI_clamp (by omega)] at hP
  have e9 : upd (fun j => b2i (mk j)) j (vp_nar .boolean (b2i false)) = fun i => b2i (va_up mk j false i) := by
    funext i
    by_cases hij : i = j
    · subst hij; simp only [upd, va_up, if_pos]; decide
    · simp only [upd, va_up, if_neg hij]
  rw [e9] at hP
  exact hP
theorem C0.st_v3 (hF : CallFix p m c cc nL s args wA RX0) (hX : C0 D cyI cyZ q n st v mk w s H) {A : Nat → Prop} (hS : va_S A H0 H locs) (j : Nat) (hj : j < 10) {i x : Int32} (hi : i = nI j) (hdg : decode cc pc = .ok (.iastore, 1))
    (kk : ∀ (H1 : Heap) (locs1 : List Loc), C0 D cyI cyZ q n st (va_up v 3 (upd (v 3) j x)) mk w s H1 → va_S A H0 H1 locs1 → W p l e R s m args below meth c H1 locs1 cells slots Q (F0 m (pc + 1) ls rest)) (hAq : ∀ a, own 10 q a → A a := by exact fun _ h => h) : W p l e R s m args below meth c H locs cells slots Q (F0 m pc ls (.int x :: .int i :: .ref (q 5) :: rest)) := by
  subst hi
  refine va_iast hF.1 hF.2.1 hX.2.1 hX.1 (apA hX.apart hAq) hS 5 0 rfl rfl (vp_in_nI hj (by decide)) hdg (fun H1 locs1 hP _ hS1 => kk H1 locs1 ⟨?_, hX.2.1, hX.2.2⟩ hS1)
  rw [nI_clamp (by omega)] at hP
  exact hP
theorem C0.st_w0 (hF : CallFix p m c cc nL s args wA RX0) (hX : C0 D cyI cyZ q n st v mk w s H) {A : Nat → Prop} (hS : va_S A H0 H locs) (j : Nat) (hj : j < 16) {i x : Int32} (hi : i = nI j) (hdg : decode cc pc = .ok (.iastore, 1))
    (kk : ∀ (H1 : Heap) (locs1 : List Loc), C0 D cyI cyZ q n st v mk (va_up w 0 (upd (w 0) j x)) s H1 → va_S A H0 H1 locs1 → W p l e R s m args below meth c H1 locs1 cells slots Q (F0 m (pc + 1) ls rest)) (hAq : ∀ a, own 10 q a → A a := by exact fun _ h => h) : W p l e R s m args below meth c H locs cells slots Q (F0 m pc ls (.int x :: .int i :: .ref (q 6) :: rest)) := by
  subst hi
  refine va_iast hF.1 hF.2.1 hX.2.1 hX.1 (apA hX.apart hAq) hS 6 0 rfl rfl (vp_in_nI hj (by decide)) hdg (fun H1 locs1 hP _ hS1 => kk H1 locs1 ⟨?_, hX.2.1, hX.2.2⟩ hS1)
  rw [nI_clamp (by omega)] at hP
  exact hP
theorem C0.st_w1 (hF : CallFix p m c cc nL s args wA RX0) (hX : C0 D cyI cyZ q n st v mk w s H) {A : Nat → Prop} (hS : va_S A H0 H locs) (j : Nat) (hj : j < 16) {i x : Int32} (hi : i = nI j) (hdg : decode cc pc = .ok (.iastore, 1))
    (kk : ∀ (H1 : Heap) (locs1 : List Loc), C0 D cyI cyZ q n st v mk (va_up w 1 (upd (w 1) j x)) s H1 → va_S A H0 H1 locs1 → W p l e R s m args below meth c H1 locs1 cells slots Q (F0 m (pc + 1) ls rest)) (hAq : ∀ a, own 10 q a → A a := by exact fun _ h => h) : W p l e R s m args below meth c H locs cells slots Q (F0 m pc ls (.int x :: .int i :: .ref (q 7) :: rest)) := by
  subst hi
  refine va_iast hF.1 hF.2.1 hX.2.1 hX.1 (apA hX.apart hAq) hS 7 0 rfl rfl (vp_in_nI hj (by decide)) hdg (fun H1 locs1 hP _ hS1 => kk H1 locs1 ⟨?_, hX.2.1, hX.2.2⟩ hS1)
  rw [nI_clamp (by omega)] at hP
  exact hP
theorem C0.st_w2 (hF : CallFix p m c cc nL s args wA RX0) (hX : C0 D cyI cyZ q n st v mk w s H) {A : Nat → Prop} (hS : va_S A H0 H locs) (j : Nat) (hj : j < 16) {i x : Int32} (hi : i = nI j) (hdg : decode cc pc = .ok (.iastore, 1))
    (kk : ∀ (H1 : Heap) (locs1 : List Loc), C0 D cyI cyZ q n st v mk (va_up w 2 (upd (w 2) j x)) s H1 → va_S A H0 H1 locs1 → W p l e R s m args below meth c H1 locs1 cells slots Q (F0 m (pc + 1) ls rest)) (hAq : ∀ a, own 10 q a → A a := by exact fun _ h => h) : W p l e R s m args below meth c H locs cells slots Q (F0 m pc ls (.int x :: .int i :: .ref (q 8) :: rest)) := by
  subst hi
  refine va_iast hF.1 hF.2.1 hX.2.1 hX.1 (apA hX.apart hAq) hS 8 0 rfl rfl (vp_in_nI hj (by decide)) hdg (fun H1 locs1 hP _ hS1 => kk H1 locs1 ⟨?_, hX.2.1, hX.2.2⟩ hS1)
  rw [nI_clamp (by omega)] at hP
  exact hP
theorem C0.st_w3 (hF : CallFix p m c cc nL s args wA RX0) (hX : C0 D cyI cyZ q n st v mk w s H) {A : Nat → Prop} (hS : va_S A H0 H locs) (j : Nat) (hj : j < 16) {i x : Int32} (hi : i = nI j) (hdg : decode cc pc = .ok (.iastore, 1))
    (kk : ∀ (H1 : Heap) (locs1 : List Loc), C0 D cyI cyZ q n st v mk (va_up w 3 (upd (w 3) j x)) s H1 → va_S A H0 H1 locs1 → W p l e R s m args below meth c H1 locs1 cells slots Q (F0 m (pc + 1) ls rest)) (hAq : ∀ a, own 10 q a → A a := by exact fun _ h => h) : W p l e R s m args below meth c H locs cells slots Q (F0 m pc ls (.int x :: .int i :: .ref (q 9) :: rest)) := by
  subst hi
  refine va_iast hF.1 hF.2.1 hX.2.1 hX.1 (apA hX.apart hAq) hS 9 0 rfl rfl (vp_in_nI hj (by decide)) hdg (fun H1 locs1 hP _ hS1 => kk H1 locs1 ⟨?_, hX.2.1, hX.2.2⟩ hS1)
  rw [nI_clamp (by omega)] at hP
  exact hP
end CR
def fM (q : Nat → Nat) (th : Int32) (n : Int32) (st : Int32) (md : Int32) (v : Nat → Nat → Int32) (w : Nat → Nat → Int32) : List Value := [.int th, .int n, .int st, .ref (q 1), .ref (q 2), .ref (q 3), .ref (q 4), .int md, .ref (q 5), .ref (q 6), .ref (q 7)]
def cwM (cyI cyZ : ClassId) (q : Nat → Nat) (th : Int32) (n : Int32) (st : Int32) (md : Int32) (v : Nat → Nat → Int32) (w : Nat → Nat → Int32) : va_W := [(q 0, .inr (1, fM q th n st md v w)), (q 1, .inl (cyI, 16, .inl (v 0))), (q 2, .inl (cyI, 16, .inl (v 1))), (q 3, .inl (cyI, 16, .inl (v 2))), (q 4, .inl (cyI, 10, .inl (v 3))), (q 5, .inl (cyI, 17, .inl (w 0))), (q 6, .inl (cyI, 17, .inl (w 1))), (q 7, .inl (cyI, 17, .inl (w 2)))]
def M0 (D : va_G) (cyI cyZ : ClassId) (q : Nat → Nat) (th : Int32) (n : Int32) (st : Int32) (md : Int32) (v : Nat → Nat → Int32) (w : Nat → Nat → Int32) : State → Heap → Prop := fun U H => va_P D vwCl (cwM cyI cyZ q th n st md v w) H ∧ va_K D vwCl [(cyI, .int)] U ∧ ap 8 q
section MR
variable {p : Program} {l : Launch} {e : Env} {R : Room} {s : State} {m : MethodId} {args : Array Value} {below : List Frame} {meth : Method} {c : Code} {H : Heap} {locs : List Loc} {cells slots : Nat} {Q : State → Prop}
variable {cc : ByteArray} {nL pc idx : Nat} {ls : Array Slot} {rest : List Value} {D : va_G} {cyI cyZ : ClassId} {q : Nat → Nat} {th : Int32} {n : Int32} {st : Int32} {md : Int32} {v : Nat → Nat → Int32} {w : Nat → Nat → Int32} {H0 : Heap}
theorem M0.mv : Mv (M0 D cyI cyZ q th n st md v w) := fun _ _ _ a h => ⟨h.1, va_K.moved a h.2.1, h.2.2⟩
theorem M0.rc (h : M0 D cyI cyZ q th n st md v w s H) : Rc RX1 (q 0) s H := va_recv h.2.1 h.1 (ci := 1) (q0 := 0) rfl rfl
theorem M0.apart (h : M0 D cyI cyZ q th n st md v w s H) : va_D (own 8 q) (cwM cyI cyZ q th n st md v w) := apD h.2.2 rfl
theorem M0.lt (h : M0 D cyI cyZ q th n st md v w s H) {a : Nat} (ha : own 8 q a) : a < H.size := apP h.1 rfl ha
theorem M0.kept {H1 : Heap} (h : M0 D cyI cyZ q th n st md v w s H) (hk : ∀ a : Nat, own 8 q a → H1[a]? = H[a]?) : M0 D cyI cyZ q th n st md v w s H1 := ⟨apK h.1 rfl hk, h.2.1, h.2.2⟩
/-- a field is read -/
theorem M0.get (hF : CallFix p m c cc nL s args wA RX1) (hX : M0 D cyI cyZ q th n st md v w s H) (j : Nat) (hj : j < 11) {val : Value} (hv : (fM q th n st md v w)[j]? = some val) {nm ds : String} (hn : TX1 j = ("MapSongsModel", nm, ds, (TX1 j).2.2.2)) (hl : Cond.fieldLink RX1 idx "MapSongsModel" nm ds ∈ wA) (hdg : decode cc pc = .ok (.getfield idx, 3))
    (kk : W p l e R s m args below meth c H locs cells slots Q (F0 m (pc + 3) ls (val :: rest))) : W p l e R s m args below meth c H locs cells slots Q (F0 m pc ls (.ref (q 0) :: rest)) := by
  have h1 : (TX1 j).1 = "MapSongsModel" := by rw [hn]
  have h2 : (TX1 j).2.1 = nm := by rw [hn]
  have h3 : (TX1 j).2.2.1 = ds := by rw [hn]
  exact va_get (D := D) (ci := 1) (C := RX1) (T := TX1) (N := 11) (ref := "MapSongsModel") hF.1 hF.2.1 hF.2.2.2.2 wx1 hF.2.2.2.1 hX.2.1 hX.1 0 rfl rfl j hj (by rw [h2, h3]; exact hF.2.2.2.2 _ hl) (by rw [h1]; exact fun _ h9 => h9) hv hdg kk
theorem M0.put_th {x : Int32} (hF : CallFix p m c cc nL s args wA RX1) (hX : M0 D cyI cyZ q th n st md v w s H) {A : Nat → Prop} (hS : va_S A H0 H locs) (hl : Cond.fieldLink RX1 idx "MapSongsModel" "thrown" "I" ∈ wA) (hdg : decode cc pc = .ok (.putfield idx, 3))
    (kk : ∀ (H1 : Heap) (locs1 : List Loc), M0 D cyI cyZ q x n st md v w s H1 → va_S A H0 H1 locs1 → W p l e R s m args below meth c H1 locs1 cells slots Q (F0 m (pc + 3) ls rest)) (hAq : ∀ a, own 8 q a → A a := by exact fun _ h => h) : W p l e R s m args below meth c H locs cells slots Q (F0 m pc ls (.int x :: .ref (q 0) :: rest)) :=
  va_put (D := D) (ci := 1) (v := .int x) (ty := .int) (C := RX1) (T := TX1) (N := 11) hF.1 hF.2.1 hF.2.2.2.2 wx1 tyX1 tyX1_ok nmX1 hF.2.2.2.1 hX.2.1 hX.1 (apA hX.apart hAq) hS 0 rfl rfl 0 (by decide) (hF.2.2.2.2 _ hl) (fun _ h9 => h9) rfl (by decide +kernel) rfl rfl (Nat.le_of_ble_eq_true rfl) hdg (fun H1 locs1 hP _ hS1 => kk H1 locs1 ⟨hP, hX.2.1, hX.2.2⟩ hS1)
theorem M0.put_n {x : Int32} (hF : CallFix p m c cc nL s args wA RX1) (hX : M0 D cyI cyZ q th n st md v w s H) {A : Nat → Prop} (hS : va_S A H0 H locs) (hl : Cond.fieldLink RX1 idx "MapSongsModel" "legs" "I" ∈ wA) (hdg : decode cc pc = .ok (.putfield idx, 3))
    (kk : ∀ (H1 : Heap) (locs1 : List Loc), M0 D cyI cyZ q th x st md v w s H1 → va_S A H0 H1 locs1 → W p l e R s m args below meth c H1 locs1 cells slots Q (F0 m (pc + 3) ls rest)) (hAq : ∀ a, own 8 q a → A a := by exact fun _ h => h) : W p l e R s m args below meth c H locs cells slots Q (F0 m pc ls (.int x :: .ref (q 0) :: rest)) :=
  va_put (D := D) (ci := 1) (v := .int x) (ty := .int) (C := RX1) (T := TX1) (N := 11) hF.1 hF.2.1 hF.2.2.2.2 wx1 tyX1 tyX1_ok nmX1 hF.2.2.2.1 hX.2.1 hX.1 (apA hX.apart hAq) hS 0 rfl rfl 1 (by decide) (hF.2.2.2.2 _ hl) (fun _ h9 => h9) rfl (by decide +kernel) rfl rfl (Nat.le_of_ble_eq_true rfl) hdg (fun H1 locs1 hP _ hS1 => kk H1 locs1 ⟨hP, hX.2.1, hX.2.2⟩ hS1)
theorem M0.put_st {x : Int32} (hF : CallFix p m c cc nL s args wA RX1) (hX : M0 D cyI cyZ q th n st md v w s H) {A : Nat → Prop} (hS : va_S A H0 H locs) (hl : Cond.fieldLink RX1 idx "MapSongsModel" "step" "I" ∈ wA) (hdg : decode cc pc = .ok (.putfield idx, 3))
    (kk : ∀ (H1 : Heap) (locs1 : List Loc), M0 D cyI cyZ q th n x md v w s H1 → va_S A H0 H1 locs1 → W p l e R s m args below meth c H1 locs1 cells slots Q (F0 m (pc + 3) ls rest)) (hAq : ∀ a, own 8 q a → A a := by exact fun _ h => h) : W p l e R s m args below meth c H locs cells slots Q (F0 m pc ls (.int x :: .ref (q 0) :: rest)) :=
  va_put (D := D) (ci := 1) (v := .int x) (ty := .int) (C := RX1) (T := TX1) (N := 11) hF.1 hF.2.1 hF.2.2.2.2 wx1 tyX1 tyX1_ok nmX1 hF.2.2.2.1 hX.2.1 hX.1 (apA hX.apart hAq) hS 0 rfl rfl 2 (by decide) (hF.2.2.2.2 _ hl) (fun _ h9 => h9) rfl (by decide +kernel) rfl rfl (Nat.le_of_ble_eq_true rfl) hdg (fun H1 locs1 hP _ hS1 => kk H1 locs1 ⟨hP, hX.2.1, hX.2.2⟩ hS1)
theorem M0.put_md {x : Int32} (hF : CallFix p m c cc nL s args wA RX1) (hX : M0 D cyI cyZ q th n st md v w s H) {A : Nat → Prop} (hS : va_S A H0 H locs) (hl : Cond.fieldLink RX1 idx "MapSongsModel" "mended" "I" ∈ wA) (hdg : decode cc pc = .ok (.putfield idx, 3))
    (kk : ∀ (H1 : Heap) (locs1 : List Loc), M0 D cyI cyZ q th n st x v w s H1 → va_S A H0 H1 locs1 → W p l e R s m args below meth c H1 locs1 cells slots Q (F0 m (pc + 3) ls rest)) (hAq : ∀ a, own 8 q a → A a := by exact fun _ h => h) : W p l e R s m args below meth c H locs cells slots Q (F0 m pc ls (.int x :: .ref (q 0) :: rest)) :=
  va_put (D := D) (ci := 1) (v := .int x) (ty := .int) (C := RX1) (T := TX1) (N := 11) hF.1 hF.2.1 hF.2.2.2.2 wx1 tyX1 tyX1_ok nmX1 hF.2.2.2.1 hX.2.1 hX.1 (apA hX.apart hAq) hS 0 rfl rfl 7 (by decide) (hF.2.2.2.2 _ hl) (fun _ h9 => h9) rfl (by decide +kernel) rfl rfl (Nat.le_of_ble_eq_true rfl) hdg (fun H1 locs1 hP _ hS1 => kk H1 locs1 ⟨hP, hX.2.1, hX.2.2⟩ hS1)
theorem M0.st_v0 (hF : CallFix p m c cc nL s args wA RX1) (hX : M0 D cyI cyZ q th n st md v w s H) {A : Nat → Prop} (hS : va_S A H0 H locs) (j : Nat) (hj : j < 16) {i x : Int32} (hi : i = nI j) (hdg : decode cc pc = .ok (.iastore, 1))
    (kk : ∀ (H1 : Heap) (locs1 : List Loc), M0 D cyI cyZ q th n st md (va_up v 0 (upd (v 0) j x)) w s H1 → va_S A H0 H1 locs1 → W p l e R s m args below meth c H1 locs1 cells slots Q (F0 m (pc + 1) ls rest)) (hAq : ∀ a, own 8 q a → A a := by exact fun _ h => h) : W p l e R s m args below meth c H locs cells slots Q (F0 m pc ls (.int x :: .int i :: .ref (q 1) :: rest)) := by
  subst hi
  refine va_iast hF.1 hF.2.1 hX.2.1 hX.1 (apA hX.apart hAq) hS 1 0 rfl rfl (vp_in_nI hj (by decide)) hdg (fun H1 locs1 hP _ hS1 => kk H1 locs1 ⟨?_, hX.2.1, hX.2.2⟩ hS1)
  rw [nI_clamp (by omega)] at hP
  exact hP
theorem M0.st_v1 (hF : CallFix p m c cc nL s args wA RX1) (hX : M0 D cyI cyZ q th n st md v w s H) {A : Nat → Prop} (hS : va_S A H0 H locs) (j : Nat) (hj : j < 16) {i x : Int32} (hi : i = nI j) (hdg : decode cc pc = .ok (.iastore, 1))
    (kk : ∀ (H1 : Heap) (locs1 : List Loc), M0 D cyI cyZ q th n st md (va_up v 1 (upd (v 1) j x)) w s H1 → va_S A H0 H1 locs1 → W p l e R s m args below meth c H1 locs1 cells slots Q (F0 m (pc + 1) ls rest)) (hAq : ∀ a, own 8 q a → A a := by exact fun _ h => h) : W p l e R s m args below meth c H locs cells slots Q (F0 m pc ls (.int x :: .int i :: .ref (q 2) :: rest)) := by
  subst hi
  refine va_iast hF.1 hF.2.1 hX.2.1 hX.1 (apA hX.apart hAq) hS 2 0 rfl rfl (vp_in_nI hj (by decide)) hdg (fun H1 locs1 hP _ hS1 => kk H1 locs1 ⟨?_, hX.2.1, hX.2.2⟩ hS1)
  rw [nI_clamp (by omega)] at hP
  exact hP
theorem M0.st_v2 (hF : CallFix p m c cc nL s args wA RX1) (hX : M0 D cyI cyZ q th n st md v w s H) {A : Nat → Prop} (hS : va_S A H0 H locs) (j : Nat) (hj : j < 16) {i x : Int32} (hi : i = nI j) (hdg : decode cc pc = .ok (.iastore, 1))
    (kk : ∀ (H1 : Heap) (locs1 : List Loc), M0 D cyI cyZ q th n st md (va_up v 2 (upd (v 2) j x)) w s H1 → va_S A H0 H1 locs1 → W p l e R s m args below meth c H1 locs1 cells slots Q (F0 m (pc + 1) ls rest)) (hAq : ∀ a, own 8 q a → A a := by exact fun _ h => h) : W p l e R s m args below meth c H locs cells slots Q (F0 m pc ls (.int x :: .int i :: .ref (q 3) :: rest)) := by
  subst hi
  refine va_iast hF.1 hF.2.1 hX.2.1 hX.1 (apA hX.apart hAq) hS 3 0 rfl rfl (vp_in_nI hj (by decide)) hdg (fun H1 locs1 hP _ hS1 => kk H1 locs1 ⟨?_, hX.2.1, hX.2.2⟩ hS1)
  rw [nI_clamp (by omega)] at hP
  exact hP
theorem M0.st_v3 (hF : CallFix p m c cc nL s args wA RX1) (hX : M0 D cyI cyZ q th n st md v w s H) {A : Nat → Prop} (hS : va_S A H0 H locs) (j : Nat) (hj : j < 10) {i x : Int32} (hi : i = nI j) (hdg : decode cc pc = .ok (.iastore, 1))
    (kk : ∀ (H1 : Heap) (locs1 : List Loc), M0 D cyI cyZ q th n st md (va_up v 3 (upd (v 3) j x)) w s H1 → va_S A H0 H1 locs1 → W p l e R s m args below meth c H1 locs1 cells slots Q (F0 m (pc + 1) ls rest)) (hAq : ∀ a, own 8 q a → A a := by exact fun _ h => h) : W p l e R s m args below meth c H locs cells slots Q (F0 m pc ls (.int x :: .int i :: .ref (q 4) :: rest)) := by
  subst hi
  refine va_iast hF.1 hF.2.1 hX.2.1 hX.1 (apA hX.apart hAq) hS 4 0 rfl rfl (vp_in_nI hj (by decide)) hdg (fun H1 locs1 hP _ hS1 => kk H1 locs1 ⟨?_, hX.2.1, hX.2.2⟩ hS1)
  rw [nI_clamp (by omega)] at hP
  exact hP
theorem M0.st_w0 (hF : CallFix p m c cc nL s args wA RX1) (hX : M0 D cyI cyZ q th n st md v w s H) {A : Nat → Prop} (hS : va_S A H0 H locs) (j : Nat) (hj : j < 17) {i x : Int32} (hi : i = nI j) (hdg : decode cc pc = .ok (.iastore, 1))
    (kk : ∀ (H1 : Heap) (locs1 : List Loc), M0 D cyI cyZ q th n st md v (va_up w 0 (upd (w 0) j x)) s H1 → va_S A H0 H1 locs1 → W p l e R s m args below meth c H1 locs1 cells slots Q (F0 m (pc + 1) ls rest)) (hAq : ∀ a, own 8 q a → A a := by exact fun _ h => h) : W p l e R s m args below meth c H locs cells slots Q (F0 m pc ls (.int x :: .int i :: .ref (q 5) :: rest)) := by
  subst hi
  refine va_iast hF.1 hF.2.1 hX.2.1 hX.1 (apA hX.apart hAq) hS 5 0 rfl rfl (vp_in_nI hj (by decide)) hdg (fun H1 locs1 hP _ hS1 => kk H1 locs1 ⟨?_, hX.2.1, hX.2.2⟩ hS1)
  rw [nI_clamp (by omega)] at hP
  exact hP
theorem M0.st_w1 (hF : CallFix p m c cc nL s args wA RX1) (hX : M0 D cyI cyZ q th n st md v w s H) {A : Nat → Prop} (hS : va_S A H0 H locs) (j : Nat) (hj : j < 17) {i x : Int32} (hi : i = nI j) (hdg : decode cc pc = .ok (.iastore, 1))
    (kk : ∀ (H1 : Heap) (locs1 : List Loc), M0 D cyI cyZ q th n st md v (va_up w 1 (upd (w 1) j x)) s H1 → va_S A H0 H1 locs1 → W p l e R s m args below meth c H1 locs1 cells slots Q (F0 m (pc + 1) ls rest)) (hAq : ∀ a, own 8 q a → A a := by exact fun _ h => h) : W p l e R s m args below meth c H locs cells slots Q (F0 m pc ls (.int x :: .int i :: .ref (q 6) :: rest)) := by
  subst hi
  refine va_iast hF.1 hF.2.1 hX.2.1 hX.1 (apA hX.apart hAq) hS 6 0 rfl rfl (vp_in_nI hj (by decide)) hdg (fun H1 locs1 hP _ hS1 => kk H1 locs1 ⟨?_, hX.2.1, hX.2.2⟩ hS1)
  rw [nI_clamp (by omega)] at hP
  exact hP
theorem M0.st_w2 (hF : CallFix p m c cc nL s args wA RX1) (hX : M0 D cyI cyZ q th n st md v w s H) {A : Nat → Prop} (hS : va_S A H0 H locs) (j : Nat) (hj : j < 17) {i x : Int32} (hi : i = nI j) (hdg : decode cc pc = .ok (.iastore, 1))
    (kk : ∀ (H1 : Heap) (locs1 : List Loc), M0 D cyI cyZ q th n st md v (va_up w 2 (upd (w 2) j x)) s H1 → va_S A H0 H1 locs1 → W p l e R s m args below meth c H1 locs1 cells slots Q (F0 m (pc + 1) ls rest)) (hAq : ∀ a, own 8 q a → A a := by exact fun _ h => h) : W p l e R s m args below meth c H locs cells slots Q (F0 m pc ls (.int x :: .int i :: .ref (q 7) :: rest)) := by
  subst hi
  refine va_iast hF.1 hF.2.1 hX.2.1 hX.1 (apA hX.apart hAq) hS 7 0 rfl rfl (vp_in_nI hj (by decide)) hdg (fun H1 locs1 hP _ hS1 => kk H1 locs1 ⟨?_, hX.2.1, hX.2.2⟩ hS1)
  rw [nI_clamp (by omega)] at hP
  exact hP
end MR
end
section
/-! WHAT THE CALLS ANSWER, as plain functions of the way: v 0 turns, v 1 lengths, v 2 landmarks, v 3 words; marks mk -/
def lv9 (a : Int32) : Bool := decide (a < 0) || decide (24 < a)
def nb (a i : Int32) : Int32 := if lv9 (a + i) = true then a - i else a + i
def nt (T : Nat → Int32) (st : Int32) : Nat → Int32
  | 0 => 12
  | k + 1 => nb (nt T st k) (T k * st)
def fmd (x y : Int32) : Int32 := if (x ^^^ y) < 0 ∧ ¬ (x - x / y * y) = 0 then (x - x / y * y) + y else x - x / y * y
def hd (T : Nat → Int32) : Nat → Int32
  | 0 => 0
  | k + 1 => fmd (hd T k + T k) 8
def eaT (j : Nat) : Int32 := ([0, 1, 1, 1, 0, -1, -1, -1] : List Int32).getD j 0
def noT (j : Nat) : Int32 := ([1, 1, 0, -1, -1, -1, 0, 1] : List Int32).getD j 0
abbrev ix (x : Int32) : Nat := x.toNatClampNeg
def px (T L : Nat → Int32) : Nat → Int32
  | 0 => 0
  | k + 1 => px T L k + L k * eaT (ix (hd T (k + 1)))
def py (T L : Nat → Int32) : Nat → Int32
  | 0 => 0
  | k + 1 => py T L k + L k * noT (ix (hd T (k + 1)))
def mx (x y : Int32) : Int32 := if x < y then y else x
def mn (x y : Int32) : Int32 := if y < x then y else x
def ab (x : Int32) : Int32 := if 0 ≤ x then x else 0 - x
def exB (P : Nat → Bool) : Nat → Bool
  | 0 => false
  | n + 1 => exB P n || P n
/-- how many of the first n -/
def ctB (P : Nat → Bool) : Nat → Int32
  | 0 => 0
  | n + 1 => if P n = true then ctB P n + 1 else ctB P n
def sumI (f : Nat → Int32) : Nat → Int32
  | 0 => 0
  | n + 1 => sumI f n + f n
/-- whether the way was at the end of leg k as the n-th place ahead was reached -/
def rtE (v : Nat → Nat → Int32) (k n : Nat) : Bool := decide (px (v 0) (v 1) n = px (v 0) (v 1) (k + 1)) && decide (py (v 0) (v 1) n = py (v 0) (v 1) (k + 1))
def rtP (v : Nat → Nat → Int32) (k : Nat) : Bool := exB (rtE v k) (k + 1)
def rtn (v : Nat → Nat → Int32) (N : Nat) : Int32 := ctB (rtP v) N
def fold1 (v : Nat → Nat → Int32) (st : Int32) (k : Nat) : Bool := lv9 (nt (v 0) st k + v 0 k * st)
def tsa (note ahead st : Int32) : Nat → Int32
  | 0 => 0
  | j + 1 => if nb ahead ((nI j - 3) * st) = note then tsa note ahead st j + 1 else tsa note ahead st j
def lc (W : Nat → Int32) (x : Int32) : Nat → Int32
  | 0 => 0
  | j + 1 => if W j = x then lc W x j + 1 else lc W x j
def tw (a t st : Int32) : Bool := decide (¬ t = 0) && (lv9 (a + st * t) || lv9 (a + -st * t))
def wd (v : Nat → Nat → Int32) (k : Nat) : Int32 := v 3 (ix (v 2 k))
def rdn (v : Nat → Nat → Int32) (st : Int32) (k : Nat) : Int32 := (if tw (nt (v 0) st k) (v 0 k) st = true then 2 else 1) * lc (v 3) (wd v k) 10
def rrn (v : Nat → Nat → Int32) (st : Int32) (k : Nat) : Int32 := (if (tw (nt (v 0) st k) (v 0 k) st && decide (0 < v 0 k)) = true then lc (v 3) (wd v k) 10 else 0) + lc (v 3) (wd v k) (ix (v 2 k))
def amb (v : Nat → Nat → Int32) (st : Int32) (mk : Nat → Bool) (k : Nat) : Bool := !mk k && decide (1 < rdn v st k)
def wys (v : Nat → Nat → Int32) (st : Int32) (mk : Nat → Bool) : Nat → Int64
  | 0 => 1
  | k + 1 => if amb v st mk k = true then (if 1000000000 < wys v st mk k * (rdn v st k).toInt64 then 1000000000 else wys v st mk k * (rdn v st k).toInt64) else wys v st mk k
/-- the first of the first n, n if there is none -/
def fst (P : Nat → Bool) : Nat → Nat
  | 0 => 0
  | n + 1 => if fst P n < n then fst P n else if P n = true then n else n + 1
def fam (v : Nat → Nat → Int32) (st : Int32) (mk : Nat → Bool) (N : Nat) : Int32 := if fst (amb v st mk) N < N then nI (fst (amb v st mk) N) else -1
/-- how many would be ambiguous with the words W and the step by, none mended -/
def umP (v : Nat → Nat → Int32) (W : Nat → Int32) (by1 : Int32) (k : Nat) : Bool := decide (1 < (if tw (nt (v 0) by1 k) (v 0 k) by1 = true then 2 else 1) * lc W (W (ix (v 2 k))) 10)
def unm (v : Nat → Nat → Int32) (W : Nat → Int32) (by1 : Int32) (N : Nat) : Int32 := ctB (umP v W by1) N
/-- whether another landmark has the word of a -/
def shE (W : Nat → Int32) (a o : Nat) : Bool := decide (¬ o = a) && decide (W o = W a)
/-- the smallest place of the least of f 0 .. f n -/
def amin (f : Nat → Int32) : Nat → Nat
  | 0 => 0
  | n + 1 => if f (n + 1) < f (amin f n) then n + 1 else amin f n
def unW (v : Nat → Nat → Int32) (st : Int32) (N j : Nat) (x : Int32) : Int32 := unm v (upd (v 3) j x) st N
def bwd (v : Nat → Nat → Int32) (st : Int32) (N j : Nat) : Nat := amin (fun x => unW v st N j (nI x)) 9
def bst (v : Nat → Nat → Int32) (N : Nat) : Nat := amin (fun x => unm v (v 3) (nI (x + 1)) N) 3 + 1
def hi9 (T : Nat → Int32) (st : Int32) : Nat → Int32
  | 0 => 0
  | k + 1 => mx (hi9 T st k) (nt T st (k + 1))
def lo9 (T : Nat → Int32) (st : Int32) : Nat → Int32
  | 0 => 24
  | k + 1 => mn (lo9 T st k) (nt T st (k + 1))
def rng (v : Nat → Nat → Int32) (st : Int32) (N : Nat) : Int32 := if N = 0 then 0 else hi9 (v 0) st N - lo9 (v 0) st N
def sgP (v : Nat → Nat → Int32) (x : Int32) (k : Nat) : Bool := decide (wd v k = x)
def sung (v : Nat → Nat → Int32) (x : Int32) (N : Nat) : Int32 := ctB (sgP v x) N
def optI : Option Nat → Int32
  | none => -1
  | some b => nI b
def optR (v : Nat → Nat → Int32) (st : Int32) : Option Nat → Int32
  | none => 1
  | some b => rdn v st b
/-- the place of the ambiguous verse with the most readings among the first n, of several the first; none: n0 = 16 -/
def mst (v : Nat → Nat → Int32) (st : Int32) (mk : Nat → Bool) : Nat → Option Nat
  | 0 => none
  | k + 1 => match mst v st mk k with
    | none => if amb v st mk k = true then some k else none
    | some b => if amb v st mk k = true ∧ rdn v st b < rdn v st k then some k else some b
def dg (d : Int64) (x : Int64) : Int64 := d * 31 + x
def dgI (d : Int64) (x : Int32) : Int64 := dg d x.toInt64
def dgLeg (v : Nat → Nat → Int32) (st : Int32) (mk : Nat → Bool) (d : Int64) (k : Nat) : Int64 :=
  dgI (dgI (dgI (dgI (dgI (dgI (dgI (dgI d (v 0 k)) (hd (v 0) (k + 1))) (v 2 k)) (nt (v 0) st (k + 1))) (wd v k)) (rdn v st k)) (rrn v st k)) (b2i (mk k))
def dgLegs (v : Nat → Nat → Int32) (st : Int32) (mk : Nat → Bool) (d : Int64) : Nat → Int64
  | 0 => d
  | k + 1 => dgLeg v st mk (dgLegs v st mk d k) k
def dgWords (v : Nat → Nat → Int32) (st : Int32) (N : Nat) (d : Int64) : Nat → Int64
  | 0 => d
  | j + 1 => dgI (dgI (dgWords v st N d j) (v 3 j)) (nI (bwd v st N j))
def dgHead (v : Nat → Nat → Int32) (st : Int32) (mk : Nat → Bool) (N : Nat) : Int64 :=
  dgI (dg (dgI (dgI (dgI (dgI (dgI (dgI (dgI (dgI (dgI (dgI 1051 (nI N)) st) (px (v 0) (v 1) N)) (py (v 0) (v 1) N)) (mx (ab (px (v 0) (v 1) N)) (ab (py (v 0) (v 1) N)))) (rtn v N)) (sumI (v 1) N)) (ctB (fold1 v st) N)) (rng v st N)) (ctB (amb v st mk) N)) (wys v st mk N)) (nI (bst v N))
def dgst (v : Nat → Nat → Int32) (st : Int32) (mk : Nat → Bool) (N : Nat) : Int64 := dgWords v st N (dgLegs v st mk (dgHead v st mk N) N) 10
/-- what holds of every way: its numbers in their ranges -/
def Ok (N : Nat) (st : Int32) (v : Nat → Nat → Int32) : Prop := N ≤ 16 ∧ (∃ s : Nat, s < 4 ∧ st = nI (s + 1)) ∧ (∀ k : Nat, ∃ e : Nat, e < 7 ∧ v 0 k = nI e - 3) ∧ (∀ k : Nat, ∃ j : Nat, j < 10 ∧ v 2 k = nI j)
/-- what the class keeps for each of the first K legs -/
def Der (K : Nat) (st : Int32) (v w : Nat → Nat → Int32) : Prop := ∀ k : Nat, k < K → w 0 k = hd (v 0) (k + 1) ∧ w 1 k = px (v 0) (v 1) (k + 1) ∧ w 2 k = py (v 0) (v 1) (k + 1) ∧ w 3 k = nt (v 0) st (k + 1)
theorem b2i_f {b : Bool} (h : b2i b = 0) : b = false := by cases b <;> simp_all [b2i]
theorem b2i_t {b : Bool} (h : ¬ b2i b = 0) : b = true := by cases b <;> simp_all [b2i]
theorem b2i_nar {b : Bool} : narrow .boolean (.int (b2i b)) = .int (b2i b) := by cases b <;> decide
theorem b2i_1 {b : Bool} (h : b = true) : (1 : Int32) = b2i b := by rw [h]; rfl
theorem b2i_0 {b : Bool} (h : b = false) : (0 : Int32) = b2i b := by rw [h]; rfl
theorem nb_t {a i : Int32} (h : lv9 (a + i) = true) : a - i = nb a i := by unfold nb; rw [if_pos h]
theorem nb_f {a i : Int32} (h : lv9 (a + i) = false) : a + i = nb a i := by unfold nb; rw [h]; rfl
theorem nI_3 (j : Nat) : nI j - 3 + 1 = nI (j + 1) - 3 := by
  rw [nI_succ, Int32.sub_eq_add_neg, Int32.sub_eq_add_neg, Int32.add_assoc, Int32.add_assoc, Int32.add_comm (-3) 1]
theorem nI_3T {j : Nat} (h : j < 100) : (nI j - 3).toInt = (j : Int) - 3 := by
  rw [show (3 : Int32) = nI 3 from rfl]
  exact pk_sub_toInt (by omega) (by omega)
theorem nI_3lt {i j : Nat} (hi : i < 100) (hj : j < 100) : nI i - 3 < nI j - 3 ↔ i < j := by
  rw [Int32.lt_iff_toInt_lt, nI_3T hi, nI_3T hj]; omega
theorem nI_3le {i j : Nat} (hi : i < 100) (hj : j < 100) : nI i - 3 ≤ nI j - 3 ↔ i ≤ j := by
  rw [Int32.le_iff_toInt_le, nI_3T hi, nI_3T hj]; omega
end
section
/-! the class's two tables -/
def ST (t1 t2 : Nat) (A : Nat → Prop) : State → Heap → Prop := fun U H => va_Z "MapSongs" "STEP_EAST" "[I" (.ref t1) A U H ∧ va_T .int t1 8 (fun j => .int (eaT j)) A U H ∧ va_Z "MapSongs" "STEP_NORTH" "[I" (.ref t2) A U H ∧ va_T .int t2 8 (fun j => .int (noT j)) A U H
theorem ST.mv {t1 t2 : Nat} {A : Nat → Prop} : Mv (ST t1 t2 A) := fun _ _ _ a h => ⟨va_Z.moved a h.1, va_T.moved a h.2.1, va_Z.moved a h.2.2.1, va_T.moved a h.2.2.2⟩
theorem ST.kept {t1 t2 : Nat} {A : Nat → Prop} {U : State} {H H1 : Heap} (h : ST t1 t2 A U H) (hq : ∀ a : Nat, a < H.size → ¬ A a → H1[a]? = H[a]?) : ST t1 t2 A U H1 := ⟨va_Z.kept h.1 hq, va_T.kept h.2.1 hq, va_Z.kept h.2.2.1 hq, va_T.kept h.2.2.2 hq⟩
theorem ST.narrow {t1 t2 : Nat} {A B : Nat → Prop} {U : State} {H : Heap} (h : ST t1 t2 A U H) (hAB : ∀ q, B q → A q) : ST t1 t2 B U H := ⟨va_Z.narrow h.1 hAB, va_T.narrow h.2.1 hAB, va_Z.narrow h.2.2.1 hAB, va_T.narrow h.2.2.2 hAB⟩
def SM1 (t1 : Nat) (A : Nat → Prop) : State → Heap → Prop := fun U H => va_Z "MapSongsModel" "EAST" "[I" (.ref t1) A U H ∧ va_T .int t1 8 (fun j => .int (eaT j)) A U H
theorem SM1.mv {t1 : Nat} {A : Nat → Prop} : Mv (SM1 t1 A) := fun _ _ _ a h => ⟨va_Z.moved a h.1, va_T.moved a h.2⟩
theorem SM1.kept {t1 : Nat} {A : Nat → Prop} {U : State} {H H1 : Heap} (h : SM1 t1 A U H) (hq : ∀ a : Nat, a < H.size → ¬ A a → H1[a]? = H[a]?) : SM1 t1 A U H1 := ⟨va_Z.kept h.1 hq, va_T.kept h.2 hq⟩
theorem SM1.narrow {t1 : Nat} {A B : Nat → Prop} {U : State} {H : Heap} (h : SM1 t1 A U H) (hAB : ∀ q, B q → A q) : SM1 t1 B U H := ⟨va_Z.narrow h.1 hAB, va_T.narrow h.2 hAB⟩

/-! plain facts -/
def in10 (x : Int32) : Bool := decide (0 ≤ x) && decide (x < 10)
theorem in10_nI {j : Nat} (h : j < 10) : in10 (nI j) = true := by
  have h1 : (0 : Int32) ≤ nI j := (nI_leI (a := 0) (by omega) (by omega)).mpr (Nat.zero_le _)
  have h2 : nI j < 10 := (nI_ltI (b := 10) (by omega) (by omega)).mpr h
  simp [in10, h1, h2]
theorem tn_lo {e : Nat} (h : e < 7) : ¬ nI e - 3 < -3 := by
  rw [show (-3 : Int32) = nI 0 - 3 by decide, nI_3lt (by omega) (by omega)]; omega
theorem tn_hi {e : Nat} (h : e < 7) : nI e - 3 ≤ 3 := by
  rw [show (3 : Int32) = nI 6 - 3 by decide]
  exact (nI_3le (by omega) (by omega)).mpr (by omega)
theorem nI_dec {i : Nat} (h : 0 < i) : nI i - 1 = nI (i - 1) := by
  obtain ⟨k, rfl⟩ : ∃ k, i = k + 1 := ⟨i - 1, by omega⟩
  exact nI_pred k
theorem der_pred {K i : Nat} {st : Int32} {v w : Nat → Nat → Int32} (h : Der K st v w) (h0 : 0 < i) (hi : i ≤ K) : w 0 (i - 1) = hd (v 0) i ∧ w 1 (i - 1) = px (v 0) (v 1) i ∧ w 2 (i - 1) = py (v 0) (v 1) i ∧ w 3 (i - 1) = nt (v 0) st i := by
  obtain ⟨k, rfl⟩ : ∃ k, i = k + 1 := ⟨i - 1, by omega⟩
  exact h k (by omega)
theorem tsa_t {a b c : Int32} {j : Nat} (h : nb b ((nI j - 3) * c) = a) : tsa a b c (j + 1) = tsa a b c j + 1 := by rw [tsa, if_pos h]
theorem tsa_f {a b c : Int32} {j : Nat} (h : ¬ nb b ((nI j - 3) * c) = a) : tsa a b c (j + 1) = tsa a b c j := by rw [tsa, if_neg h]
theorem lc_t {W : Nat → Int32} {x : Int32} {j : Nat} (h : W j = x) : lc W x (j + 1) = lc W x j + 1 := by rw [lc, if_pos h]
theorem lc_f {W : Nat → Int32} {x : Int32} {j : Nat} (h : ¬ W j = x) : lc W x (j + 1) = lc W x j := by rw [lc, if_neg h]
theorem ctB_t {P : Nat → Bool} {j : Nat} (h : P j = true) : ctB P (j + 1) = ctB P j + 1 := by rw [ctB, if_pos h]
theorem ctB_f {P : Nat → Bool} {j : Nat} (h : P j = false) : ctB P (j + 1) = ctB P j := by rw [ctB, h]; rfl
theorem okM {N : Nat} {st : Int32} {v : Nat → Nat → Int32} (h : Ok N st v) (k : Nat) : v 2 k = nI (ix (v 2 k)) := by
  obtain ⟨j, hj, e⟩ := h.2.2.2 k
  rw [e, ix, nI_clamp (by omega)]
theorem okM10 {N : Nat} {st : Int32} {v : Nat → Nat → Int32} (h : Ok N st v) (k : Nat) : ix (v 2 k) < 10 := by
  obtain ⟨j, hj, e⟩ := h.2.2.2 k
  rw [e, ix, nI_clamp (by omega)]
  exact hj
set_option maxRecDepth 100000 in
theorem fin1 : ∀ a, a < 25 → ∀ e, e < 7 → ∀ s, s < 4 → (∃ b, b < 25 ∧ nb (nI a) ((nI e - 3) * nI (s + 1)) = nI b) ∧ tsa (nb (nI a) ((nI e - 3) * nI (s + 1))) (nI a) (nI (s + 1)) 7 = (if tw (nI a) (nI e - 3) (nI (s + 1)) = true then 2 else 1) ∧ tsa (nb (nI a) ((nI e - 3) * nI (s + 1))) (nI a) (nI (s + 1)) e = (if (tw (nI a) (nI e - 3) (nI (s + 1)) && decide (0 < nI e - 3)) = true then 1 else 0) := by decide +kernel
theorem nt_rng {N : Nat} {st : Int32} {v : Nat → Nat → Int32} (h : Ok N st v) {s : Nat} (hs : s < 4) : ∀ k : Nat, ∃ a : Nat, a < 25 ∧ nt (v 0) (nI (s + 1)) k = nI a
  | 0 => ⟨12, by decide, rfl⟩
  | k + 1 => by
    obtain ⟨a, ha, ea⟩ := nt_rng h hs k
    obtain ⟨e, he, ee⟩ := h.2.2.1 k
    obtain ⟨b, hb, eb⟩ := (fin1 a ha e he s hs).1
    exact ⟨b, hb, by rw [nt, ea, ee, eb]⟩
theorem tsa7 {N : Nat} {st by1 : Int32} {v : Nat → Nat → Int32} (h : Ok N st v) (hb : ∃ s : Nat, s < 4 ∧ by1 = nI (s + 1)) (k : Nat) : tsa (nt (v 0) by1 (k + 1)) (nt (v 0) by1 k) by1 7 = (if tw (nt (v 0) by1 k) (v 0 k) by1 = true then 2 else 1) := by
  obtain ⟨s, hs, rfl⟩ := hb
  obtain ⟨a, ha, ea⟩ := nt_rng h hs k
  obtain ⟨e, he, ee⟩ := h.2.2.1 k
  rw [nt, ea, ee]
  exact (fin1 a ha e he s hs).2.1
theorem tsaE {N : Nat} {st : Int32} {v : Nat → Nat → Int32} (h : Ok N st v) {e k : Nat} (he : e < 7) (ee : v 0 k = nI e - 3) : tsa (nt (v 0) st (k + 1)) (nt (v 0) st k) st e = (if (tw (nt (v 0) st k) (v 0 k) st && decide (0 < v 0 k)) = true then 1 else 0) := by
  obtain ⟨s, hs, rfl⟩ := h.2.1
  obtain ⟨a, ha, ea⟩ := nt_rng h hs k
  rw [nt, ea, ee]
  exact (fin1 a ha e he s hs).2.2
theorem rdn_c {N K i : Nat} {st : Int32} {v w : Nat → Nat → Int32} (h : Ok N st v) (hd : Der K st v w) (hi : i < K) : tsa (w 3 i) (nt (v 0) st i) st 7 * lc (v 3) (v 3 (ix (v 2 i))) 10 = rdn v st i := by
  rw [(hd i hi).2.2.2, tsa7 h h.2.1 i]
  rfl
theorem rrn_c {N K i e : Nat} {st : Int32} {v w : Nat → Nat → Int32} (h : Ok N st v) (hd : Der K st v w) (hi : i < K) (he : e < 7) (ee : v 0 i = nI e - 3) : tsa (w 3 i) (nt (v 0) st i) st e * lc (v 3) (v 3 (ix (v 2 i))) 10 + lc (v 3) (v 3 (ix (v 2 i))) (ix (v 2 i)) = rrn v st i := by
  rw [(hd i hi).2.2.2, tsaE h he ee]
  unfold rrn wd
  split <;> simp
theorem exB_in {P : Nat → Bool} {i : Nat} : ∀ {n : Nat}, i < n → P i = true → exB P n = true
  | 0, h, _ => absurd h (Nat.not_lt_zero _)
  | n + 1, h, hp => by
    rw [exB]
    rcases Nat.lt_or_ge i n with q | q
    · rw [exB_in q hp]; rfl
    · rw [show n = i by omega, hp, Bool.or_true]
theorem exB_f {P : Nat → Bool} {n : Nat} (h : exB P n = false) (hp : P n = false) : exB P (n + 1) = false := by rw [exB, h, hp]; rfl
theorem exB_ex {P : Nat → Bool} : ∀ {n : Nat}, exB P n = true → ∃ i : Nat, i < n ∧ P i = true
  | 0, h => by cases h
  | n + 1, h => by
    rw [exB, Bool.or_eq_true] at h
    rcases h with h | h
    · obtain ⟨i, h1, h2⟩ := exB_ex h
      exact ⟨i, by omega, h2⟩
    · exact ⟨n, by omega, h⟩
theorem wys_t {v : Nat → Nat → Int32} {st : Int32} {mk : Nat → Bool} {k : Nat} (h : amb v st mk k = true) : wys v st mk (k + 1) = (if 1000000000 < wys v st mk k * Int32.toInt64 (rdn v st k) then 1000000000 else wys v st mk k * Int32.toInt64 (rdn v st k)) := by rw [wys, if_pos h]
theorem wys_f {v : Nat → Nat → Int32} {st : Int32} {mk : Nat → Bool} {k : Nat} (h : amb v st mk k = false) : wys v st mk (k + 1) = wys v st mk k := by rw [wys, h]; rfl
theorem fst_no {P : Nat → Bool} : ∀ {n : Nat}, (∀ i, i < n → P i = false) → fst P n = n
  | 0, _ => rfl
  | n + 1, h => by rw [fst, fst_no (fun i hi => h i (by omega)), if_neg (Nat.lt_irrefl _), h n (by omega)]; rfl
theorem fst_at {P : Nat → Bool} {j : Nat} (h : ∀ i, i < j → P i = false) (hj : P j = true) : ∀ {n : Nat}, j < n → fst P n = j
  | 0, q => absurd q (Nat.not_lt_zero _)
  | n + 1, q => by
    rw [fst]
    rcases Nat.lt_or_ge j n with g | g
    · rw [fst_at h hj g, if_pos g]
    · rw [show n = j by omega, fst_no h, if_neg (Nat.lt_irrefl _), if_pos hj]
theorem fam_at {v : Nat → Nat → Int32} {st : Int32} {mk : Nat → Bool} {j N : Nat} (h : ∀ i, i < j → amb v st mk i = false) (hj : amb v st mk j = true) (hn : j < N) : nI j = fam v st mk N := by
  unfold fam
  rw [fst_at h hj hn, if_pos hn]
theorem fam_no {v : Nat → Nat → Int32} {st : Int32} {mk : Nat → Bool} {N : Nat} (h : ∀ i, i < N → amb v st mk i = false) : (-1) = fam v st mk N := by
  unfold fam
  rw [fst_no h, if_neg (Nat.lt_irrefl _)]
theorem lt_s1 {P : Nat → Prop} {j : Nat} (h : ∀ i, i < j → P i) (hj : P j) : ∀ i, i < j + 1 → P i := fun i hi => by
  rcases Nat.lt_or_ge i j with q | q
  · exact h i q
  · rw [show i = j by omega]; exact hj
theorem mst_amb {v : Nat → Nat → Int32} {st : Int32} {mk : Nat → Bool} : ∀ {n b : Nat}, mst v st mk n = some b → b < n ∧ amb v st mk b = true
  | 0, b, h => by cases h
  | n + 1, b, h => by
    rw [mst] at h
    cases e : mst v st mk n with
    | none =>
      rw [e] at h
      dsimp only at h
      split at h
      · cases h; exact ⟨by omega, by assumption⟩
      · cases h
    | some b0 =>
      rw [e] at h
      dsimp only at h
      split at h
      · rename_i hc; cases h; exact ⟨by omega, hc.1⟩
      · cases h
        have := mst_amb e
        exact ⟨by omega, this.2⟩
theorem amb_iff {v : Nat → Nat → Int32} {st : Int32} {mk : Nat → Bool} {k : Nat} : amb v st mk k = true ↔ mk k = false ∧ 1 < rdn v st k := by
  unfold amb
  cases mk k <;> simp
theorem mst_t {v : Nat → Nat → Int32} {st : Int32} {mk : Nat → Bool} {k : Nat} (h : mk k = false) (hr : optR v st (mst v st mk k) < rdn v st k) : mst v st mk (k + 1) = some k := by
  rw [mst]
  cases e : mst v st mk k with
  | none =>
    rw [e] at hr
    dsimp only
    rw [if_pos (amb_iff.mpr ⟨h, hr⟩)]
  | some b =>
    rw [e] at hr
    dsimp only
    have h1 := (amb_iff.mp (mst_amb e).2).2
    have hr : rdn v st b < rdn v st k := hr
    rw [if_pos ⟨amb_iff.mpr ⟨h, Int32.lt_trans h1 hr⟩, hr⟩]
theorem mst_f {v : Nat → Nat → Int32} {st : Int32} {mk : Nat → Bool} {k : Nat} (h : ¬ (mk k = false ∧ optR v st (mst v st mk k) < rdn v st k)) : mst v st mk (k + 1) = mst v st mk k := by
  rw [mst]
  cases e : mst v st mk k with
  | none =>
    rw [e] at h
    dsimp only
    rw [if_neg (fun q => h (amb_iff.mp q))]
  | some b =>
    rw [e] at h
    dsimp only
    rw [if_neg (fun q => h ⟨(amb_iff.mp q.1).1, q.2⟩)]
theorem amin_t {f : Nat → Int32} {k : Nat} (h : f (k + 1) < f (amin f k)) : amin f (k + 1) = k + 1 := by rw [amin, if_pos h]
theorem amin_f {f : Nat → Int32} {k : Nat} (h : ¬ f (k + 1) < f (amin f k)) : amin f (k + 1) = amin f k := by rw [amin, if_neg h]
theorem amin_le {f : Nat → Int32} : ∀ {k : Nat}, amin f k ≤ k
  | 0 => Nat.le_refl _
  | k + 1 => by
    rw [amin]
    split
    · exact Nat.le_refl _
    · exact Nat.le_succ_of_le amin_le
theorem upd_self {f : Nat → Int32} {j : Nat} : upd f j (f j) = f := by
  funext i
  unfold upd
  split
  · rename_i h; rw [h]
  · rfl
theorem lo_1 {N : Nat} {st : Int32} {v : Nat → Nat → Int32} (h : Ok N st v) : nt (v 0) st 1 = lo9 (v 0) st 1 ∧ nt (v 0) st 1 = hi9 (v 0) st 1 := by
  obtain ⟨s, hs, rfl⟩ := h.2.1
  obtain ⟨a, ha, ea⟩ := nt_rng h hs 1
  rw [lo9, hi9, lo9, hi9, ea, mn, mx]
  have h1 : ¬ 24 < nI a := fun q => by have := (nI_ltI (a := 24) (by omega) (by omega)).mp q; omega
  constructor
  · split
    · rfl
    · rename_i h2
      have h3 : ¬ nI a < nI 24 := h2
      rw [nI_ltI (by omega) (by omega)] at h3
      rw [show a = 24 by omega]; rfl
  · split
    · rfl
    · rename_i h2
      have h3 : ¬ nI 0 < nI a := h2
      rw [nI_ltI (by omega) (by omega)] at h3
      rw [show a = 0 by omega]; rfl
/-- how many of the first n have the word x, as a number -/
def lcN (W : Nat → Int32) (x : Int32) : Nat → Nat
  | 0 => 0
  | j + 1 => if W j = x then lcN W x j + 1 else lcN W x j
theorem lc_N (W : Nat → Int32) (x : Int32) : ∀ n : Nat, lc W x n = nI (lcN W x n)
  | 0 => rfl
  | n + 1 => by
    rw [lc, lcN, lc_N W x n]
    split
    · exact nI_1 _
    · rfl
theorem lcN_le (W : Nat → Int32) (x : Int32) : ∀ n : Nat, lcN W x n ≤ n
  | 0 => Nat.le_refl _
  | n + 1 => by
    have := lcN_le W x n
    rw [lcN]
    split <;> omega
theorem lcN_mono {W : Nat → Int32} {x : Int32} {a : Nat} : ∀ {n : Nat}, a ≤ n → lcN W x a ≤ lcN W x n
  | 0, h => by rw [show a = 0 by omega]; exact Nat.le_refl _
  | n + 1, h => by
    rcases Nat.lt_or_ge a (n + 1) with q | q
    · have := lcN_mono (W := W) (x := x) (show a ≤ n by omega)
      rw [lcN]
      split <;> omega
    · rw [show a = n + 1 by omega]; exact Nat.le_refl _
theorem lcN_0 {W : Nat → Int32} {x : Int32} : ∀ {n : Nat}, (∀ o, o < n → ¬ W o = x) → lcN W x n = 0
  | 0, _ => rfl
  | n + 1, h => by rw [lcN, if_neg (h n (by omega)), lcN_0 (fun o ho => h o (by omega))]
theorem lcN_1 {W : Nat → Int32} {x : Int32} {a : Nat} (ha : W a = x) : ∀ {n : Nat}, (∀ o, o < n → W o = x → o = a) → lcN W x n ≤ 1
  | 0, _ => Nat.zero_le _
  | n + 1, h => by
    rw [lcN]
    split
    · rename_i hn
      have e := h n (by omega) hn
      rw [lcN_0 (fun o ho q => by have := h o (by omega) q; omega)]
      exact Nat.le_refl _
    · exact lcN_1 ha (fun o ho => h o (by omega))
theorem lcN_2 {W : Nat → Int32} {x : Int32} {a b : Nat} (hab : a < b) (ha : W a = x) (hb : W b = x) {n : Nat} (hn : b < n) : 2 ≤ lcN W x n := by
  have h1 : lcN W x (b + 1) = lcN W x b + 1 := by rw [lcN, if_pos hb]
  have h2 : lcN W x (a + 1) = lcN W x a + 1 := by rw [lcN, if_pos ha]
  have h3 := lcN_mono (W := W) (x := x) (show a + 1 ≤ b by omega)
  have h4 := lcN_mono (W := W) (x := x) (show b + 1 ≤ n by omega)
  omega
theorem lcN_self {W : Nat → Int32} {a n : Nat} (ha : a < n) : 1 ≤ lcN W (W a) n := by
  have h2 : lcN W (W a) (a + 1) = lcN W (W a) a + 1 := by rw [lcN, if_pos rfl]
  have h4 := lcN_mono (W := W) (x := W a) (show a + 1 ≤ n by omega)
  omega
/-- several readings: several turns, or another landmark with the word -/
theorem um_iff {W : Nat → Int32} {a : Nat} (ha : a < 10) (b : Bool) : decide (1 < (if b = true then 2 else 1) * lc W (W a) 10) = (b || exB (shE W a) 10) := by
  have h1 := lcN_self (W := W) ha
  have h2 := lcN_le W (W a) 10
  rw [lc_N]
  have h3 : (1 < (if b = true then (2 : Int32) else 1) * nI (lcN W (W a) 10)) ↔ (b = true ∨ 1 < lcN W (W a) 10) := by
    cases b
    · have e1 : (if false = true then (2 : Int32) else 1) * nI (lcN W (W a) 10) = nI (lcN W (W a) 10) := by
        rw [if_neg (by decide), Int32.one_mul]
      rw [e1]
      constructor
      · intro h; exact Or.inr ((nI_ltI (a := 1) (by omega) (by omega)).mp h)
      · intro h
        rcases h with h | h
        · cases h
        · exact (nI_ltI (a := 1) (by omega) (by omega)).mpr h
    · have e1 : (if true = true then (2 : Int32) else 1) * nI (lcN W (W a) 10) = nI (2 * lcN W (W a) 10) := by
        rw [if_pos rfl]; exact pk_mul 2 _
      rw [e1]
      constructor
      · intro _; exact Or.inl rfl
      · intro _; exact (nI_ltI (a := 1) (by omega) (by omega)).mpr (by omega)
  have h4 : exB (shE W a) 10 = true ↔ 1 < lcN W (W a) 10 := by
    constructor
    · intro h
      obtain ⟨o, ho, hp⟩ := exB_ex h
      unfold shE at hp
      simp only [Bool.and_eq_true, decide_eq_true_eq] at hp
      rcases Nat.lt_or_gt_of_ne hp.1 with q | q
      · exact lcN_2 q hp.2 rfl ha
      · exact lcN_2 q rfl hp.2 ho
    · intro h
      cases e : exB (shE W a) 10 with
      | true => rfl
      | false =>
        have : lcN W (W a) 10 ≤ 1 := lcN_1 (a := a) rfl (fun o ho hw => by
          rcases Nat.decEq o a with hne | heq
          · have : exB (shE W a) 10 = true := exB_in ho (by unfold shE; simp [hne, hw])
            rw [e] at this; cases this
          · exact heq)
        omega
  cases b
  · rw [Bool.false_or]
    cases e : exB (shE W a) 10 with
    | true => rw [decide_eq_true_eq, h3]; exact Or.inr (h4.mp e)
    | false =>
      rw [decide_eq_false_iff_not, h3]
      intro h
      rcases h with h | h
      · cases h
      · have := h4.mpr h; rw [e] at this; cases this
  · rw [Bool.true_or, decide_eq_true_eq, h3]; exact Or.inl rfl
theorem rtE_x {v : Nat → Nat → Int32} {k n : Nat} {a b : Int32} (ha : a = px (v 0) (v 1) n) (hb : b = px (v 0) (v 1) (k + 1)) (h : ¬ a = b) : rtE v k n = false := by
  unfold rtE; rw [← ha, ← hb]; simp [h]
theorem rtE_y {v : Nat → Nat → Int32} {k n : Nat} {a b : Int32} (ha : a = py (v 0) (v 1) n) (hb : b = py (v 0) (v 1) (k + 1)) (h : ¬ a = b) : rtE v k n = false := by
  unfold rtE; rw [← ha, ← hb]; simp [h]
theorem rtE_t {v : Nat → Nat → Int32} {k n : Nat} {a b c d : Int32} (ha : a = px (v 0) (v 1) n) (hb : b = py (v 0) (v 1) n) (hc : c = px (v 0) (v 1) (k + 1)) (hd : d = py (v 0) (v 1) (k + 1)) (h : a = c) (h2 : b = d) : rtE v k n = true := by
  unfold rtE; rw [← ha, ← hb, ← hc, ← hd]; simp [h, h2]
theorem rng_0 {v : Nat → Nat → Int32} {st : Int32} {N : Nat} (h : N = 0) : 0 = rng v st N := by unfold rng; rw [if_pos h]
theorem rng_1 {v : Nat → Nat → Int32} {st : Int32} {N : Nat} (h : 0 < N) : hi9 (v 0) st N - lo9 (v 0) st N = rng v st N := by unfold rng; rw [if_neg (by omega)]
theorem sgP_t {v : Nat → Nat → Int32} {x : Int32} {k : Nat} (h : v 3 (ix (v 2 k)) = x) : sgP v x k = true := by unfold sgP wd; simp [h]
theorem sgP_f {v : Nat → Nat → Int32} {x : Int32} {k : Nat} (h : ¬ v 3 (ix (v 2 k)) = x) : sgP v x k = false := by unfold sgP wd; simp [h]
theorem upd_n {f : Nat → Int32} {j a : Nat} {x : Int32} (h : ¬ a = j) : f a = upd f j x a := by unfold upd; rw [if_neg h]
theorem upd_s {f : Nat → Int32} {j a : Nat} {x : Int32} (h : a = j) : x = upd f j x a := by unfold upd; rw [if_pos h]
theorem shE_a {W : Nat → Int32} {a o : Nat} (h : o = a) : shE W a o = false := by unfold shE; simp [h]
theorem shE_w {W : Nat → Int32} {a o : Nat} (h : ¬ W o = W a) : shE W a o = false := by unfold shE; simp [h]
theorem shE_t {W : Nat → Int32} {a o : Nat} (h : ¬ o = a) (h2 : W o = W a) : shE W a o = true := by unfold shE; simp [h, h2]
theorem um_t1 {N k : Nat} {st by1 : Int32} {v : Nat → Nat → Int32} {W : Nat → Int32} (hok : Ok N st v) (hb : ∃ s : Nat, s < 4 ∧ by1 = nI (s + 1)) (h : ¬ tsa (nb (nt (v 0) by1 k) (v 0 k * by1)) (nt (v 0) by1 k) by1 7 ≤ 1) : umP v W by1 k = true := by
  have e : tsa (nb (nt (v 0) by1 k) (v 0 k * by1)) (nt (v 0) by1 k) by1 7 = _ := tsa7 hok hb k
  rw [e] at h
  unfold umP
  rw [um_iff (okM10 hok k)]
  cases t : tw (nt (v 0) by1 k) (v 0 k) by1
  · rw [t] at h; exact absurd (by decide) h
  · rfl
theorem um_t2 {N k : Nat} {st by1 : Int32} {v : Nat → Nat → Int32} {W : Nat → Int32} (hok : Ok N st v) (h : exB (shE W (ix (v 2 k))) 10 = true) : umP v W by1 k = true := by
  unfold umP
  rw [um_iff (okM10 hok k), h, Bool.or_true]
theorem um_f {N k : Nat} {st by1 : Int32} {v : Nat → Nat → Int32} {W : Nat → Int32} (hok : Ok N st v) (hb : ∃ s : Nat, s < 4 ∧ by1 = nI (s + 1)) (h : tsa (nb (nt (v 0) by1 k) (v 0 k * by1)) (nt (v 0) by1 k) by1 7 ≤ 1) (h2 : exB (shE W (ix (v 2 k))) 10 = false) : umP v W by1 k = false := by
  have e : tsa (nb (nt (v 0) by1 k) (v 0 k * by1)) (nt (v 0) by1 k) by1 7 = _ := tsa7 hok hb k
  rw [e] at h
  unfold umP
  rw [um_iff (okM10 hok k), h2, Bool.or_false]
  cases t : tw (nt (v 0) by1 k) (v 0 k) by1
  · rfl
  · rw [t] at h; exact absurd h (by decide)
theorem hd_nat {N : Nat} {st : Int32} {v : Nat → Nat → Int32} (h : Ok N st v) : ∀ k : Nat, ∃ a : Nat, a < 8 ∧ hd (v 0) k = nI a
  | 0 => ⟨0, by decide, rfl⟩
  | k + 1 => by
    obtain ⟨a, ha, ea⟩ := hd_nat h k
    obtain ⟨e, he, ee⟩ := h.2.2.1 k
    have fin : ∀ a, a < 8 → ∀ e, e < 7 → ∃ b, b < 8 ∧ fmd (nI a + (nI e - 3)) 8 = nI b := by decide +kernel
    obtain ⟨b, hb, eb⟩ := fin a ha e he
    exact ⟨b, hb, by rw [hd, ea, ee, eb]⟩
theorem hd_ix {N : Nat} {st : Int32} {v : Nat → Nat → Int32} (h : Ok N st v) (k : Nat) : hd (v 0) k = nI (ix (hd (v 0) k)) := by
  obtain ⟨a, ha, ea⟩ := hd_nat h k
  rw [ea, ix, nI_clamp (by omega)]
theorem hd_ix8 {N : Nat} {st : Int32} {v : Nat → Nat → Int32} (h : Ok N st v) (k : Nat) : ix (hd (v 0) k) < 8 := by
  obtain ⟨a, ha, ea⟩ := hd_nat h k
  rw [ea, ix, nI_clamp (by omega)]
  exact ha
theorem der_up {K j : Nat} {st : Int32} {v w : Nat → Nat → Int32} (h : Der K st v w) (hj : K ≤ j) (k : Nat) (x : Int32) : Der K st v (va_up w k (upd (w k) j x)) := by
  intro i hi
  have e : ∀ n : Nat, va_up w k (upd (w k) j x) n i = w n i := by
    intro n
    unfold va_up
    split
    · rename_i hn; subst hn; unfold upd; rw [if_neg (by omega)]
    · rfl
  rw [e, e, e, e]
  exact h i hi
/-- the four stores of one turn of follow -/
def st4 (w : Nat → Nat → Int32) (j : Nat) (a b c d : Int32) : Nat → Nat → Int32 :=
  va_up (va_up (va_up (va_up w 0 (upd (w 0) j a)) 1 (upd ((va_up w 0 (upd (w 0) j a)) 1) j b)) 2 (upd ((va_up (va_up w 0 (upd (w 0) j a)) 1 (upd ((va_up w 0 (upd (w 0) j a)) 1) j b)) 2) j c)) 3
    (upd ((va_up (va_up (va_up w 0 (upd (w 0) j a)) 1 (upd ((va_up w 0 (upd (w 0) j a)) 1) j b)) 2 (upd ((va_up (va_up w 0 (upd (w 0) j a)) 1 (upd ((va_up w 0 (upd (w 0) j a)) 1) j b)) 2) j c)) 3) j d)
theorem der_next {K : Nat} {st : Int32} {v w : Nat → Nat → Int32} (h : Der K st v w) : Der (K + 1) st v (st4 w K (hd (v 0) (K + 1)) (px (v 0) (v 1) (K + 1)) (py (v 0) (v 1) (K + 1)) (nt (v 0) st (K + 1))) := by
  intro i hi
  rcases Nat.lt_or_ge i K with q | q
  · have := der_up (der_up (der_up (der_up h (Nat.le_refl K) 0 (hd (v 0) (K + 1))) (Nat.le_refl K) 1 (px (v 0) (v 1) (K + 1))) (Nat.le_refl K) 2 (py (v 0) (v 1) (K + 1))) (Nat.le_refl K) 3 (nt (v 0) st (K + 1))
    exact this i q
  · have e : i = K := by omega
    subst e
    unfold st4
    simp [va_up, upd]
theorem der_0 {st : Int32} {v w : Nat → Nat → Int32} : Der 0 st v w := fun _ h => absurd h (Nat.not_lt_zero _)
theorem der_le {K M : Nat} {st : Int32} {v w : Nat → Nat → Int32} (h : Der K st v w) (hm : M ≤ K) : Der M st v w := fun i hi => h i (by omega)
theorem hd_cong {T T' : Nat → Int32} : ∀ {k : Nat}, (∀ i, i < k → T i = T' i) → hd T k = hd T' k
  | 0, _ => rfl
  | k + 1, h => by rw [hd, hd, hd_cong (fun i hi => h i (by omega)), h k (by omega)]
theorem px_cong {T T' L L' : Nat → Int32} : ∀ {k : Nat}, (∀ i, i < k → T i = T' i) → (∀ i, i < k → L i = L' i) → px T L k = px T' L' k
  | 0, _, _ => rfl
  | k + 1, h, h2 => by rw [px, px, px_cong (fun i hi => h i (by omega)) (fun i hi => h2 i (by omega)), h2 k (by omega), hd_cong h]
theorem py_cong {T T' L L' : Nat → Int32} : ∀ {k : Nat}, (∀ i, i < k → T i = T' i) → (∀ i, i < k → L i = L' i) → py T L k = py T' L' k
  | 0, _, _ => rfl
  | k + 1, h, h2 => by rw [py, py, py_cong (fun i hi => h i (by omega)) (fun i hi => h2 i (by omega)), h2 k (by omega), hd_cong h]
theorem nt_cong {T T' : Nat → Int32} {st : Int32} : ∀ {k : Nat}, (∀ i, i < k → T i = T' i) → nt T st k = nt T' st k
  | 0, _ => rfl
  | k + 1, h => by rw [nt, nt, nt_cong (fun i hi => h i (by omega)), h k (by omega)]
theorem der_cong {K : Nat} {st : Int32} {v v' w : Nat → Nat → Int32} (h : Der K st v w) (h0 : ∀ i, i < K → v 0 i = v' 0 i) (h1 : ∀ i, i < K → v 1 i = v' 1 i) : Der K st v' w := by
  intro i hi
  obtain ⟨a, b, c, d⟩ := h i hi
  exact ⟨a.trans (hd_cong (fun k hk => h0 k (by omega))), b.trans (px_cong (fun k hk => h0 k (by omega)) (fun k hk => h1 k (by omega))), c.trans (py_cong (fun k hk => h0 k (by omega)) (fun k hk => h1 k (by omega))), d.trans (nt_cong (fun k hk => h0 k (by omega)))⟩
/-- what addLeg writes down -/
def addV (v : Nat → Nat → Int32) (j : Nat) (t ln m : Int32) : Nat → Nat → Int32 :=
  va_up (va_up (va_up v 0 (upd (v 0) j t)) 1 (upd ((va_up v 0 (upd (v 0) j t)) 1) j ln)) 2 (upd ((va_up (va_up v 0 (upd (v 0) j t)) 1 (upd ((va_up v 0 (upd (v 0) j t)) 1) j ln)) 2) j m)
theorem addV_ok {N : Nat} {st ln : Int32} {v : Nat → Nat → Int32} (h : Ok N st v) (hN : N < 16) {e j : Nat} (he : e < 7) (hj : j < 10) : Ok (N + 1) st (addV v N (nI e - 3) ln (nI j)) := by
  refine ⟨by omega, h.2.1, fun k => ?_, fun k => ?_⟩
  · have e1 : addV v N (nI e - 3) ln (nI j) 0 k = upd (v 0) N (nI e - 3) k := rfl
    rw [e1]
    unfold upd
    split
    · exact ⟨e, he, rfl⟩
    · exact h.2.2.1 k
  · have e1 : addV v N (nI e - 3) ln (nI j) 2 k = upd (v 2) N (nI j) k := rfl
    rw [e1]
    unfold upd
    split
    · exact ⟨j, hj, rfl⟩
    · exact h.2.2.2 k
theorem addV_der {N : Nat} {st t ln m : Int32} {v w : Nat → Nat → Int32} (h : Der N st v w) : Der N st (addV v N t ln m) w := by
  refine der_cong h (fun i hi => ?_) (fun i hi => ?_)
  · show v 0 i = upd (v 0) N t i
    unfold upd; rw [if_neg (by omega)]
  · show v 1 i = upd (v 1) N ln i
    unfold upd; rw [if_neg (by omega)]
theorem bend_ok {N : Nat} {st : Int32} {v : Nat → Nat → Int32} (h : Ok N st v) {e i : Nat} (he : e < 7) : Ok N st (va_up v 0 (upd (v 0) i (nI e - 3))) := by
  refine ⟨h.1, h.2.1, fun k => ?_, fun k => h.2.2.2 k⟩
  show ∃ e1, e1 < 7 ∧ upd (v 0) i (nI e - 3) k = nI e1 - 3
  unfold upd
  split
  · exact ⟨e, he, rfl⟩
  · exact h.2.2.1 k
theorem bend_der {K : Nat} {st t : Int32} {v w : Nat → Nat → Int32} (h : Der K st v w) : Der K st (va_up v 0 (upd (v 0) K t)) w := by
  refine der_cong h (fun i hi => ?_) (fun i hi => rfl)
  show v 0 i = upd (v 0) K t i
  unfold upd; rw [if_neg (by omega)]
/-- mending until no more ways are left than told: the count and the marks -/
def mdF (v : Nat → Nat → Int32) (st : Int32) (N : Nat) (ways : Int64) : Nat → Nat → (Nat → Bool) → Nat × (Nat → Bool)
  | 0, c, g => (c, g)
  | f + 1, c, g => if ways < wys v st g N then (match mst v st g N with | none => (c, g) | some b => mdF v st N ways f (c + 1) (va_up g b true)) else (c, g)
theorem mdF_stop {v : Nat → Nat → Int32} {st : Int32} {N : Nat} {ways : Int64} {f c : Nat} {mk : Nat → Bool} (h : ¬ ways < wys v st mk N) : mdF v st N ways f c mk = (c, mk) := by
  cases f with
  | zero => rfl
  | succ f => rw [mdF, if_neg h]
theorem mdF_none {v : Nat → Nat → Int32} {st : Int32} {N : Nat} {ways : Int64} {f c : Nat} {mk : Nat → Bool} (h : mst v st mk N = none) : mdF v st N ways f c mk = (c, mk) := by
  cases f with
  | zero => rfl
  | succ f =>
    rw [mdF]
    split
    · rw [h]
    · rfl
theorem mdF_go {v : Nat → Nat → Int32} {st : Int32} {N b : Nat} {ways : Int64} {f c : Nat} {mk : Nat → Bool} (hf : 0 < f) (h : ways < wys v st mk N) (hb : mst v st mk N = some b) : mdF v st N ways f c mk = mdF v st N ways (f - 1) (c + 1) (va_up mk b true) := by
  cases f with
  | zero => omega
  | succ f => rw [mdF, if_pos h, hb]; rfl
theorem fmd_1 {x y : Int32} (h : 0 ≤ x ^^^ y) : x - x / y * y = fmd x y := by unfold fmd; rw [if_neg (fun q => Int32.not_lt.mpr h q.1)]
theorem fmd_2 {x y : Int32} (h : x - x / y * y = 0) : x - x / y * y = fmd x y := by unfold fmd; rw [if_neg (fun q => q.2 h)]
theorem fmd_3 {x y : Int32} (h : ¬ 0 ≤ x ^^^ y) (h2 : ¬ x - x / y * y = 0) : x - x / y * y + y = fmd x y := by unfold fmd; rw [if_pos ⟨Int32.not_le.mp h, h2⟩]
theorem mk_f {mk : Nat → Bool} {j : Nat} (h : ∀ k, k < j → mk k = false) : ∀ k, k < j + 1 → va_up mk j false k = false := by
  intro k hk
  unfold va_up
  split
  · rfl
  · exact h k (by omega)
theorem mdF_0 {v : Nat → Nat → Int32} {st : Int32} {N c : Nat} {ways : Int64} {g : Nat → Bool} (h : N ≤ c) : mdF v st N ways (N - c) c g = (c, g) := by rw [show N - c = 0 by omega]; rfl
theorem optI_some {v : Nat → Nat → Int32} {st : Int32} {N : Nat} {g : Nat → Bool} (h : 0 ≤ optI (mst v st g N)) : ∃ b : Nat, mst v st g N = some b ∧ b < N := by
  cases e : mst v st g N with
  | none => rw [e] at h; exact absurd h (by decide)
  | some b => exact ⟨b, rfl, (mst_amb e).1⟩
theorem optI_none {v : Nat → Nat → Int32} {st : Int32} {N : Nat} {g : Nat → Bool} (hN : N ≤ 16) (h : ¬ 0 ≤ optI (mst v st g N)) : mst v st g N = none := by
  cases e : mst v st g N with
  | none => rfl
  | some b =>
    rw [e] at h
    have := (mst_amb e).1
    exact absurd (nI_pos' (n := b) (by omega)) h
/-! the model -/
def isI (x lo hi : Int32) : Bool := decide (lo ≤ x) && decide (x ≤ hi)
theorem lv9_isI (x : Int32) : lv9 x = !isI x 0 24 := by
  unfold lv9 isI
  rcases Int32.lt_or_le x 0 with h | h
  · simp [h, Int32.not_le.mpr h]
  · rcases Int32.lt_or_le 24 x with h2 | h2
    · simp [h, Int32.not_lt.mpr h, h2, Int32.not_le.mpr h2]
    · simp [h, Int32.not_lt.mpr h, h2, Int32.not_lt.mpr h2]
def legB (N : Nat) (x : Int32) : Bool := isI x 0 (nI N - 1)
theorem legB_t {N i : Nat} (hi : i < N) (hN : N ≤ 16) : legB N (nI i) = true := by
  obtain ⟨M, rfl⟩ : ∃ M, N = M + 1 := ⟨N - 1, by omega⟩
  unfold legB isI
  rw [nI_pred]
  have h1 : (0 : Int32) ≤ nI i := (nI_leI (a := 0) (by omega) (by omega)).mpr (Nat.zero_le _)
  have h2 : nI i ≤ nI M := (nI_leI (by omega) (by omega)).mpr (by omega)
  simp [h1, h2]
theorem legB_f {N : Nat} {x : Int32} (hN : N ≤ 16) (h : x < 0 ∨ nI N ≤ x) : legB N x = false := by
  unfold legB isI
  rcases h with h | h
  · simp [Int32.not_le.mpr h]
  · rcases Nat.eq_zero_or_pos N with e | e
    · subst e
      have h2 : ¬ (0 ≤ x ∧ x ≤ nI 0 - 1) := by
        intro q
        have := Int32.le_trans q.1 q.2
        exact absurd this (by decide)
      cases h3 : (decide (0 ≤ x) && decide (x ≤ nI 0 - 1)) with
      | false => rfl
      | true => simp only [Bool.and_eq_true, decide_eq_true_eq] at h3; exact absurd h3 h2
    · rw [nI_dec e]
      have h2 : ¬ x ≤ nI (N - 1) := fun q => by
        have h3 := Int32.le_trans h q
        have := (nI_leI (by omega) (by omega)).mp h3
        omega
      simp [h2]
theorem isI_t {e : Nat} (he : e < 7) : isI (nI e - 3) (-3) 3 = true := by
  unfold isI
  simp [tn_hi he, Int32.not_lt.mp (tn_lo he)]
theorem isI_k {j : Nat} (h : j < 10) : isI (nI j) 0 9 = true := by
  have h1 : (0 : Int32) ≤ nI j := (nI_leI (a := 0) (by omega) (by omega)).mpr (Nat.zero_le _)
  have h2 : nI j ≤ 9 := (nI_leI (b := 9) (by omega) (by omega)).mpr (by omega)
  unfold isI
  simp [h1, h2]
theorem isI_s {x : Nat} (h : x < 4) : isI (nI (x + 1)) 1 4 = true := by
  have h1 : (1 : Int32) ≤ nI (x + 1) := (nI_leI (a := 1) (by omega) (by omega)).mpr (by omega)
  have h2 : nI (x + 1) ≤ 4 := (nI_leI (b := 4) (by omega) (by omega)).mpr (by omega)
  unfold isI
  simp [h1, h2]
/-- the heading as the model reckons it -/
def hsum (T : Nat → Int32) : Nat → Int32
  | 0 => 0
  | k + 1 => hsum T k + (T k + 8)
theorem hsum_nat {N : Nat} {st : Int32} {v : Nat → Nat → Int32} (h : Ok N st v) : ∀ k : Nat, k ≤ 16 → ∃ a : Nat, a ≤ 11 * k ∧ hsum (v 0) k = nI a ∧ hd (v 0) k = nI (a % 8)
  | 0, _ => ⟨0, by omega, rfl, rfl⟩
  | k + 1, hk => by
    obtain ⟨a, ha, ea, eh⟩ := hsum_nat h k (by omega)
    obtain ⟨e, he, ee⟩ := h.2.2.1 k
    refine ⟨a + (e + 5), by omega, ?_, ?_⟩
    · rw [hsum, ea, ee]
      have fin : ∀ e, e < 7 → nI e - 3 + 8 = nI (e + 5) := by decide
      rw [fin e he, nI_add]
    · rw [hd, eh, ee]
      have fin : ∀ a, a < 8 → ∀ e, e < 7 → fmd (nI a + (nI e - 3)) 8 = nI ((a + (e + 5)) % 8) := by decide +kernel
      rw [fin (a % 8) (by omega) e he]
      congr 1
      omega
theorem hsum_hd {N : Nat} {st : Int32} {v : Nat → Nat → Int32} (h : Ok N st v) {k : Nat} (hk : k ≤ 16) : hsum (v 0) k - hsum (v 0) k / 8 * 8 = hd (v 0) k := by
  obtain ⟨a, ha, ea, eh⟩ := hsum_nat h k hk
  rw [ea, eh]
  exact pk_rem (a := a) (d := 8) (by omega) (by omega) (by omega)
theorem hd_y {N : Nat} {st : Int32} {v : Nat → Nat → Int32} (h : Ok N st v) (k : Nat) : hd (v 0) k + 2 - (hd (v 0) k + 2) / 8 * 8 = nI ((ix (hd (v 0) k) + 2) % 8) := by
  obtain ⟨a, ha, ea⟩ := hd_nat h k
  have e : ix (nI a) = a := nI_clamp (by omega)
  rw [ea, e]
  have fin : ∀ a, a < 8 → nI a + 2 - (nI a + 2) / 8 * 8 = nI ((a + 2) % 8) := by decide +kernel
  exact fin a ha
theorem noT_y {N : Nat} {st : Int32} {v : Nat → Nat → Int32} (h : Ok N st v) (k : Nat) : eaT ((ix (hd (v 0) k) + 2) % 8) = noT (ix (hd (v 0) k)) := by
  have h8 := hd_ix8 h k
  have fin : ∀ a, a < 8 → eaT ((a + 2) % 8) = noT a := by decide
  exact fin _ h8
theorem sing_t {T : Nat → Int32} {by1 a : Int32} {k : Nat} (ha : a = nt T by1 k) (h : lv9 (a + by1 * T k) = true) : a + -by1 * T k = nt T by1 (k + 1) := by
  subst ha
  rw [nt, Int32.mul_comm (T k) by1, ← nb_t h, Int32.sub_eq_add_neg, Int32.neg_mul]
theorem sing_f {T : Nat → Int32} {by1 a : Int32} {k : Nat} (ha : a = nt T by1 k) (h : lv9 (a + by1 * T k) = false) : a + by1 * T k = nt T by1 (k + 1) := by
  subst ha
  rw [nt, Int32.mul_comm (T k) by1, ← nb_f h]
theorem le_s1 {P : Nat → Prop} {j : Nat} (h : ∀ i, i ≤ j → P i) (hj : P (j + 1)) : ∀ i, i ≤ j + 1 → P i := fun i hi => by
  rcases Nat.lt_or_ge j i with q | q
  · rw [show i = j + 1 by omega]; exact hj
  · exact h i q
/-- how many readings, by a step and with the notes as sung by it -/
def mny (v : Nat → Nat → Int32) (by1 : Int32) (k : Nat) : Int32 := (if tw (nt (v 0) by1 k) (v 0 k) by1 = true then 2 else 1) * lc (v 3) (wd v k) 10
/-- the marks, as bits -/
def Mk (N : Nat) (g : Nat → Bool) (md : Int32) : Prop := (∀ k : Nat, k < N → md.toBitVec.getLsbD k = g k) ∧ ∀ k : Nat, N ≤ k → k < 16 → md.toBitVec.getLsbD k = false
theorem bit_get (x : Int32) (k : Nat) (hk : k < 16) : (x >>> (nI k &&& 31)) &&& 1 = b2i (x.toBitVec.getLsbD k) := by
  have hs : ((nI k &&& 31).toBitVec.smod 32).toNat = k := by
    have fin : ∀ k, k < 16 → ((nI k &&& 31).toBitVec.smod 32).toNat = k := by decide +kernel
    exact fin k hk
  have e : ((x >>> (nI k &&& 31)) &&& 1) = nI ((x >>> (nI k &&& 31)).toBitVec.toNat % 2 ^ 1) := pk_and _ 1 (by decide)
  have hb : (x >>> (nI k &&& 31)).toBitVec.getLsbD 0 = x.toBitVec.getLsbD k := by
    rw [Int32.toBitVec_shiftRight]
    rw [BitVec.sshiftRight_eq', ]
    rw [BitVec.getLsbD_sshiftRight]
    rw [hs]
    simp
    omega
  have g : ∀ y : BitVec 32, y.toNat % 2 ^ 1 = (y.getLsbD 0).toNat := by
    intro y
    rw [BitVec.getLsbD, Nat.testBit_zero]
    rcases Nat.mod_two_eq_zero_or_one y.toNat with h | h <;> simp [h]
  rw [e, g, hb]
  cases x.toBitVec.getLsbD k <;> decide
theorem bit_pow {i : Nat} (hi : i < 16) : ((1 : Int32) <<< (nI i &&& 31)).toBitVec = BitVec.twoPow 32 i := by
  have fin : ∀ i, i < 16 → ((1 : Int32) <<< (nI i &&& 31)).toBitVec = BitVec.twoPow 32 i := by decide +kernel
  exact fin i hi
theorem bit_set (md : Int32) {i k : Nat} (hi : i < 16) : (md ||| (1 <<< (nI i &&& 31))).toBitVec.getLsbD k = (md.toBitVec.getLsbD k || decide (i = k)) := by
  rw [Int32.toBitVec_or, BitVec.getLsbD_or, bit_pow hi, BitVec.getLsbD_twoPow]
  simp [show i < 32 by omega]
theorem bit_clr (md : Int32) {i k : Nat} (hi : i < 16) (hk : k < 16) : (md &&& ((1 <<< (nI i &&& 31)) ^^^ (-1))).toBitVec.getLsbD k = (md.toBitVec.getLsbD k && !decide (i = k)) := by
  rw [Int32.toBitVec_and, BitVec.getLsbD_and, Int32.toBitVec_xor, BitVec.getLsbD_xor, bit_pow hi, BitVec.getLsbD_twoPow]
  have fin : ∀ k, k < 16 → (-1 : Int32).toBitVec.getLsbD k = true := by decide +kernel
  rw [fin k hk]
  simp [show i < 32 by omega]
theorem Mk_set {N i : Nat} {g : Nat → Bool} {md : Int32} (h : Mk N g md) (hN : N ≤ 16) (hi : i < N) : Mk N (va_up g i true) (md ||| (1 <<< (nI i &&& 31))) := by
  refine ⟨fun k hk => ?_, fun k hk h16 => ?_⟩
  · rw [bit_set md (by omega), h.1 k hk]
    unfold va_up
    rcases Nat.decEq k i with hn | hy
    · rw [if_neg hn, show decide (i = k) = false from decide_eq_false (fun q => hn q.symm), Bool.or_false]
    · rw [if_pos hy, show decide (i = k) = true from decide_eq_true hy.symm, Bool.or_true]
  · rw [bit_set md (by omega), h.2 k hk h16, show decide (i = k) = false from decide_eq_false (by omega)]
    rfl
theorem Mk_strike {M : Nat} {g : Nat → Bool} {md : Int32} (h : Mk (M + 1) g md) (hM : M < 16) : Mk M g (md &&& ((1 <<< (nI M &&& 31)) ^^^ (-1))) := by
  refine ⟨fun k hk => ?_, fun k hk h16 => ?_⟩
  · rw [bit_clr md hM (by omega), h.1 k (by omega), show decide (M = k) = false from decide_eq_false (by omega)]
    simp
  · rw [bit_clr md hM h16]
    rcases Nat.decEq M k with hn | hy
    · rw [h.2 k (by omega) h16]; rfl
    · rw [show decide (M = k) = true from decide_eq_true hy]; simp
theorem Mk_zero {N : Nat} {g : Nat → Bool} (h : ∀ k, k < N → g k = false) : Mk N g 0 := by
  refine ⟨fun k hk => ?_, fun k hk h16 => ?_⟩
  · rw [h k hk]; simp
  · simp
theorem Mk_add {N : Nat} {g : Nat → Bool} {md : Int32} (h : Mk N g md) (hN : N < 16) : Mk (N + 1) (va_up g N false) md := by
  refine ⟨fun k hk => ?_, fun k hk h16 => h.2 k (by omega) h16⟩
  unfold va_up
  rcases Nat.decEq k N with hn | hy
  · rw [if_neg hn]; exact h.1 k (by omega)
  · rw [if_pos hy, hy]; exact h.2 N (Nat.le_refl N) hN
theorem Mk_get {N k : Nat} {g : Nat → Bool} {md : Int32} (h : Mk N g md) (hN : N ≤ 16) (hk : k < N) : (md >>> (nI k &&& 31)) &&& 1 = b2i (g k) := by
  rw [bit_get md k (by omega), h.1 k hk]
theorem upd_back {v : Nat → Nat → Int32} {j : Nat} {x : Int32} : va_up (va_up v 3 (upd (v 3) j x)) 3 (upd ((va_up v 3 (upd (v 3) j x)) 3) j (v 3 j)) = v := by
  funext n i
  unfold va_up
  split
  · rename_i h
    subst h
    simp only [if_pos, upd]
    split
    · rename_i h2; rw [h2]
    · rfl
  · rfl
theorem rdn_mny {v : Nat → Nat → Int32} {st : Int32} {k : Nat} : mny v st k = rdn v st k := rfl
theorem um_mny {v : Nat → Nat → Int32} {by1 : Int32} {k : Nat} : umP v (v 3) by1 k = decide (1 < mny v by1 k) := rfl
theorem b2i_set_t {P : Nat → Bool} {n : Nat} (h : P n = true) : (1 : Int32) = b2i (exB P (n + 1)) := by rw [exB, h, Bool.or_true]; rfl
theorem b2i_set_o {P : Nat → Bool} {n : Nat} (h : exB P n = true) : (1 : Int32) = b2i (exB P (n + 1)) := by rw [exB, h, Bool.true_or]; rfl
theorem b2i_set_f {P : Nat → Bool} {n : Nat} (h : exB P n = false) (h2 : P n = false) : (0 : Int32) = b2i (exB P (n + 1)) := by rw [exB, h, h2]; rfl
theorem ctB_t' {P : Nat → Bool} {j : Nat} (h : P j = true) : ctB P j + 1 = ctB P (j + 1) := (ctB_t h).symm
theorem ctB_f' {P : Nat → Bool} {j : Nat} (h : P j = false) : ctB P j + 0 = ctB P (j + 1) := by rw [ctB_f h, Int32.add_zero]
theorem lc_t' {W : Nat → Int32} {x a : Int32} {j : Nat} (h : W j = x) (ha : a = lc W x j) : a + 1 = lc W x (j + 1) := by rw [lc_t h, ha]
theorem lc_f' {W : Nat → Int32} {x a : Int32} {j : Nat} (h : ¬ W j = x) (ha : a = lc W x j) : a + 0 = lc W x (j + 1) := by rw [lc_f h, ha, Int32.add_zero]
/-- right's sum, on its way -/
def rrS (v : Nat → Nat → Int32) (st : Int32) (k j : Nat) : Int32 := (if (tw (nt (v 0) st k) (v 0 k) st && decide (0 < v 0 k)) = true then lc (v 3) (wd v k) 10 else 0) + lc (v 3) (wd v k) j
theorem rrS_t {v : Nat → Nat → Int32} {st : Int32} {k j : Nat} (h : v 3 j = v 3 (ix (v 2 k))) : rrS v st k j + 1 = rrS v st k (j + 1) := by
  unfold rrS
  rw [lc_t (W := v 3) (x := wd v k) h, Int32.add_assoc]
theorem rrS_f {v : Nat → Nat → Int32} {st : Int32} {k j : Nat} (h : ¬ v 3 j = v 3 (ix (v 2 k))) : rrS v st k j + 0 = rrS v st k (j + 1) := by
  unfold rrS
  rw [lc_f (W := v 3) (x := wd v k) h, Int32.add_zero]
theorem rrS_a {v : Nat → Nat → Int32} {st : Int32} {k : Nat} (h : tw (nt (v 0) st k) (v 0 k) st = false) : 0 = rrS v st k 0 := by
  unfold rrS; rw [h, if_neg (by simp), lc, Int32.add_zero]
theorem rrS_b {v : Nat → Nat → Int32} {st : Int32} {k : Nat} (h : v 0 k ≤ 0) : 0 = rrS v st k 0 := by
  unfold rrS; rw [if_neg (by simp; exact fun _ => h), lc, Int32.add_zero]
theorem rrS_c {v : Nat → Nat → Int32} {st : Int32} {k : Nat} (h : tw (nt (v 0) st k) (v 0 k) st = true) (h2 : ¬ v 0 k ≤ 0) : lc (v 3) (v 3 (ix (v 2 k))) 10 = rrS v st k 0 := by
  unfold rrS; rw [h, if_pos (by simp; exact Int32.not_le.mp h2), lc, Int32.add_zero]; rfl
theorem wys_t' {v : Nat → Nat → Int32} {st : Int32} {mk : Nat → Bool} {k : Nat} (h : amb v st mk k = true) : (if wys v st mk k * Int32.toInt64 (rdn v st k) < 1000000000 then wys v st mk k * Int32.toInt64 (rdn v st k) else 1000000000) = wys v st mk (k + 1) := by
  rw [wys_t h]
  by_cases h1 : wys v st mk k * Int32.toInt64 (rdn v st k) < 1000000000
  · rw [if_pos h1, if_neg (fun q => absurd (Int64.lt_trans h1 q) (Int64.lt_irrefl))]
  · rw [if_neg h1]
    split
    · rfl
    · rename_i h2
      exact Int64.le_antisymm (Int64.not_lt.mp h1) (Int64.not_lt.mp h2)
/-- the notes as the model has sung them -/
def Sg (N : Nat) (by1 : Int32) (v w : Nat → Nat → Int32) : Prop := ∀ k : Nat, k ≤ N → w 0 k = nt (v 0) by1 k
def Wk (N : Nat) (v w : Nat → Nat → Int32) : Prop := ∀ k : Nat, k ≤ N → w 1 k = px (v 0) (v 1) k ∧ w 2 k = py (v 0) (v 1) k
theorem sg_0 {by1 : Int32} {v w : Nat → Nat → Int32} : ∀ k : Nat, k ≤ 0 → (va_up w 0 (upd (w 0) 0 12)) 0 k = nt (v 0) by1 k := by
  intro k hk
  rw [show k = 0 by omega]
  rfl
theorem sg_up {by1 : Int32} {v w : Nat → Nat → Int32} {j : Nat} (h : ∀ k : Nat, k ≤ j → w 0 k = nt (v 0) by1 k) : ∀ k : Nat, k ≤ j + 1 → (va_up w 0 (upd (w 0) (j + 1) (nt (v 0) by1 (j + 1)))) 0 k = nt (v 0) by1 k := by
  intro k hk
  show upd (w 0) (j + 1) (nt (v 0) by1 (j + 1)) k = _
  unfold upd
  split
  · rename_i e; rw [e]
  · exact h k (by omega)
theorem wk_0 {v w : Nat → Nat → Int32} : ∀ k : Nat, k ≤ 0 → (va_up (va_up w 1 (upd (w 1) 0 0)) 2 (upd ((va_up w 1 (upd (w 1) 0 0)) 2) 0 0)) 1 k = px (v 0) (v 1) k ∧ (va_up (va_up w 1 (upd (w 1) 0 0)) 2 (upd ((va_up w 1 (upd (w 1) 0 0)) 2) 0 0)) 2 k = py (v 0) (v 1) k := by
  intro k hk
  rw [show k = 0 by omega]
  exact ⟨rfl, rfl⟩
theorem wk_up {v w : Nat → Nat → Int32} {j : Nat} (h : ∀ k : Nat, k ≤ j → w 1 k = px (v 0) (v 1) k ∧ w 2 k = py (v 0) (v 1) k) : ∀ k : Nat, k ≤ j + 1 →
    (va_up (va_up w 1 (upd (w 1) (j + 1) (px (v 0) (v 1) (j + 1)))) 2 (upd ((va_up w 1 (upd (w 1) (j + 1) (px (v 0) (v 1) (j + 1)))) 2) (j + 1) (py (v 0) (v 1) (j + 1)))) 1 k = px (v 0) (v 1) k ∧
    (va_up (va_up w 1 (upd (w 1) (j + 1) (px (v 0) (v 1) (j + 1)))) 2 (upd ((va_up w 1 (upd (w 1) (j + 1) (px (v 0) (v 1) (j + 1)))) 2) (j + 1) (py (v 0) (v 1) (j + 1)))) 2 k = py (v 0) (v 1) k := by
  intro k hk
  refine ⟨?_, ?_⟩
  · show upd (w 1) (j + 1) (px (v 0) (v 1) (j + 1)) k = _
    unfold upd
    split
    · rename_i e; rw [e]
    · exact (h k (by omega)).1
  · show upd (w 2) (j + 1) (py (v 0) (v 1) (j + 1)) k = _
    unfold upd
    split
    · rename_i e; rw [e]
    · exact (h k (by omega)).2
theorem wk_x {T L : Nat → Int32} {a : Int32} {j : Nat} (h : a = px T L j) : a + L j * eaT (ix (hd T (j + 1))) = px T L (j + 1) := by subst h; rfl
theorem wk_y {T L : Nat → Int32} {a : Int32} {j : Nat} (h : a = py T L j) : a + L j * noT (ix (hd T (j + 1))) = py T L (j + 1) := by subst h; rfl
theorem fold_c {v : Nat → Nat → Int32} {st a : Int32} {k : Nat} (h : a = nt (v 0) st k) : b2i (lv9 (a + st * v 0 k)) = b2i (fold1 v st k) := by
  subst h; unfold fold1; rw [Int32.mul_comm st (v 0 k)]
theorem tw_0 {a t by1 : Int32} (h : t = 0) : tw a t by1 = false := by unfold tw; simp [h]
theorem tw_1 {a t by1 : Int32} (h : ¬ t = 0) (h2 : lv9 (a + by1 * t) = true) : tw a t by1 = true := by unfold tw; simp [h, h2]
theorem tw_2 {a t by1 : Int32} (h : ¬ t = 0) (h2 : lv9 (a + -by1 * t) = true) : tw a t by1 = true := by unfold tw; simp [h, h2]
theorem tw_3 {a t by1 : Int32} (h2 : lv9 (a + by1 * t) = false) (h3 : lv9 (a + -by1 * t) = false) : tw a t by1 = false := by unfold tw; simp [h2, h3]
theorem mny_t {v : Nat → Nat → Int32} {by1 : Int32} {k : Nat} (h : tw (nt (v 0) by1 k) (v 0 k) by1 = true) : 2 * lc (v 3) (v 3 (ix (v 2 k))) 10 = mny v by1 k := by unfold mny; rw [if_pos h]; rfl
theorem mny_f {v : Nat → Nat → Int32} {by1 : Int32} {k : Nat} (h : tw (nt (v 0) by1 k) (v 0 k) by1 = false) : 1 * lc (v 3) (v 3 (ix (v 2 k))) 10 = mny v by1 k := by unfold mny; rw [h, if_neg (by decide)]; rfl
theorem rrS_rrn {v : Nat → Nat → Int32} {st : Int32} {k : Nat} : rrS v st k (ix (v 2 k)) = rrn v st k := rfl
theorem um_1 {v : Nat → Nat → Int32} {by1 : Int32} {k : Nat} (h : ¬ mny v by1 k ≤ 1) : umP v (v 3) by1 k = true := by rw [um_mny]; exact decide_eq_true (Int32.not_le.mp h)
theorem um_0 {v : Nat → Nat → Int32} {by1 : Int32} {k : Nat} (h : mny v by1 k ≤ 1) : umP v (v 3) by1 k = false := by rw [um_mny]; exact decide_eq_false (Int32.not_lt.mpr h)
theorem amb_o {v : Nat → Nat → Int32} {st : Int32} {mk : Nat → Bool} {k : Nat} (h : mk k = true) : amb v st mk k = false := by unfold amb; simp [h]
theorem amb_1 {v : Nat → Nat → Int32} {st : Int32} {mk : Nat → Bool} {k : Nat} (h : mk k = false) (h2 : ¬ rdn v st k ≤ 1) : amb v st mk k = true := amb_iff.mpr ⟨h, Int32.not_le.mp h2⟩
theorem amb_0 {v : Nat → Nat → Int32} {st : Int32} {mk : Nat → Bool} {k : Nat} (h2 : rdn v st k ≤ 1) : amb v st mk k = false := by
  cases e : amb v st mk k with
  | false => rfl
  | true => exact absurd (amb_iff.mp e).2 (Int32.not_lt.mpr h2)
theorem b2i_n1 {b : Bool} (h : ¬ b2i b = 1) : b = false := by cases b <;> simp_all [b2i]
theorem b2i_y1 {b : Bool} (h : b2i b = 1) : b = true := by cases b <;> simp_all [b2i]
theorem mst_s0 {v : Nat → Nat → Int32} {st : Int32} {g : Nat → Bool} {j : Nat} (h : amb v st g j = false) : mst v st g (j + 1) = mst v st g j := by
  rw [mst]
  cases e : mst v st g j with
  | none => dsimp only; rw [h]; rfl
  | some b => dsimp only; rw [if_neg (fun q => by rw [h] at q; cases q.1)]
theorem optI_m1 {o : Option Nat} (ho : ∀ b, o = some b → b < 16) (h : optI o = -1) : o = none := by
  cases o with
  | none => rfl
  | some b =>
    have hb := ho b rfl
    have fin : ∀ b, b < 16 → ¬ nI b = -1 := by decide +kernel
    exact absurd h (fin b hb)
theorem mst_lt {v : Nat → Nat → Int32} {st : Int32} {g : Nat → Bool} {n : Nat} (hn : n ≤ 16) : ∀ b, mst v st g n = some b → b < 16 := fun b h => by
  have := (mst_amb h).1
  omega
theorem mst_s1 {v : Nat → Nat → Int32} {st : Int32} {g : Nat → Bool} {j : Nat} (hj : j ≤ 16) (h : amb v st g j = true) (hn : optI (mst v st g j) = -1) : mst v st g (j + 1) = some j := by
  rw [mst, optI_m1 (mst_lt hj) hn]
  dsimp only
  rw [if_pos h]
theorem mst_s2 {v : Nat → Nat → Int32} {st : Int32} {g : Nat → Bool} {j b : Nat} (hb : mst v st g j = some b) (h : rdn v st j ≤ rdn v st b) : mst v st g (j + 1) = mst v st g j := by
  rw [mst, hb]
  dsimp only
  rw [if_neg (fun q => Int32.not_lt.mpr h q.2)]
theorem mst_s3 {v : Nat → Nat → Int32} {st : Int32} {g : Nat → Bool} {j b : Nat} (hb : mst v st g j = some b) (ha : amb v st g j = true) (h : ¬ rdn v st j ≤ rdn v st b) : mst v st g (j + 1) = some j := by
  rw [mst, hb]
  dsimp only
  rw [if_pos ⟨ha, Int32.not_le.mp h⟩]
theorem mst_so {v : Nat → Nat → Int32} {st : Int32} {g : Nat → Bool} {j : Nat} (h : ¬ optI (mst v st g j) = -1) : ∃ b : Nat, mst v st g j = some b ∧ b < j := by
  cases e : mst v st g j with
  | none => rw [e] at h; exact absurd rfl h
  | some b => exact ⟨b, rfl, (mst_amb e).1⟩
theorem mst_no {v : Nat → Nat → Int32} {st : Int32} {g : Nat → Bool} : ∀ {n : Nat}, mst v st g n = none → ∀ k, k < n → amb v st g k = false
  | 0, _, k, hk => absurd hk (Nat.not_lt_zero _)
  | n + 1, h, k, hk => by
    rw [mst] at h
    cases e : mst v st g n with
    | some b =>
      rw [e] at h
      dsimp only at h
      split at h <;> cases h
    | none =>
      rw [e] at h
      dsimp only at h
      split at h
      · cases h
      · rename_i hn
        rcases Nat.lt_or_ge k n with q | q
        · exact mst_no e k q
        · rw [show k = n by omega]; exact Bool.eq_false_iff.mpr hn
theorem wys_1 {v : Nat → Nat → Int32} {st : Int32} {g : Nat → Bool} : ∀ {n : Nat}, (∀ k, k < n → amb v st g k = false) → wys v st g n = 1
  | 0, _ => rfl
  | n + 1, h => by rw [wys_f (h n (by omega)), wys_1 (fun k hk => h k (by omega))]
theorem mst_go {v : Nat → Nat → Int32} {st : Int32} {g : Nat → Bool} {N : Nat} {W9 : Int64} (h1 : 1 ≤ W9) (h : W9 < wys v st g N) : ∃ b : Nat, mst v st g N = some b ∧ b < N := by
  cases e : mst v st g N with
  | some b => exact ⟨b, rfl, (mst_amb e).1⟩
  | none =>
    rw [wys_1 (mst_no e)] at h
    exact absurd (Int64.lt_of_lt_of_le h h1) Int64.lt_irrefl
/-- how many of the first n bear no mark -/
def ucn (g : Nat → Bool) : Nat → Nat
  | 0 => 0
  | n + 1 => ucn g n + (if g n = true then 0 else 1)
theorem ucn_le (g : Nat → Bool) : ∀ n : Nat, ucn g n ≤ n
  | 0 => Nat.le_refl _
  | n + 1 => by have := ucn_le g n; rw [ucn]; split <;> omega
theorem ucn_0 {g : Nat → Bool} : ∀ {n : Nat}, ucn g n = 0 → ∀ k, k < n → g k = true
  | 0, _, k, hk => absurd hk (Nat.not_lt_zero _)
  | n + 1, h, k, hk => by
    rw [ucn] at h
    have h2 : g n = true := by
      cases e : g n with
      | true => rfl
      | false => rw [e] at h; simp at h
    rcases Nat.lt_or_ge k n with q | q
    · exact ucn_0 (n := n) (by omega) k q
    · rw [show k = n by omega]; exact h2
theorem ucn_up {g : Nat → Bool} {b : Nat} (hb : g b = false) : ∀ {n : Nat}, (n ≤ b → ucn (va_up g b true) n = ucn g n) ∧ (b < n → ucn (va_up g b true) n + 1 = ucn g n)
  | 0 => ⟨fun _ => rfl, fun h => absurd h (Nat.not_lt_zero _)⟩
  | n + 1 => by
    have ih := ucn_up hb (n := n)
    refine ⟨fun h => ?_, fun h => ?_⟩
    · rw [ucn, ucn, ih.1 (by omega), show va_up g b true n = g n by unfold va_up; rw [if_neg (by omega)]]
    · rw [ucn, ucn]
      rcases Nat.lt_or_ge b n with q | q
      · rw [show va_up g b true n = g n by unfold va_up; rw [if_neg (by omega)]]
        have := ih.2 q
        omega
      · have e : n = b := by omega
        subst e
        rw [ih.1 (Nat.le_refl _), hb, show va_up g n true n = true by unfold va_up; rw [if_pos rfl]]
        simp
theorem md_lt {v : Nat → Nat → Int32} {st : Int32} {g : Nat → Bool} {N c : Nat} {W9 : Int64} (hc : c ≤ N) (hu : ucn g N ≤ N - c) (h1 : 1 ≤ W9) (h : W9 < wys v st g N) : c < N := by
  rcases Nat.lt_or_ge c N with q | q
  · exact q
  · have e : ucn g N = 0 := by omega
    have := ucn_0 e
    rw [wys_1 (fun k hk => amb_o (this k hk))] at h
    exact absurd (Int64.lt_of_lt_of_le h h1) Int64.lt_irrefl
theorem md_ge1 {w1 : Int32} (h : isI w1 1 1000000 = true) : (1 : Int64) ≤ Int32.toInt64 w1 := by
  unfold isI at h
  simp only [Bool.and_eq_true, decide_eq_true_eq] at h
  have h1 := h.1
  rw [Int32.le_iff_toInt_le] at h1
  rw [Int64.le_iff_toInt_le, Int32.toInt_toInt64]
  exact h1
/-- the mean note -/
def mean (v : Nat → Nat → Int32) (st : Int32) (N : Nat) : UInt64 := if N = 0 then 0 else FP.ddiv (FP.i2d (sumI (fun k => nt (v 0) st (k + 1)) N)) (FP.i2d (nI N))
set_option maxRecDepth 100000 in
theorem ddiv_fin : ∀ a, a < 385 → ∀ b, b < 16 → FP.ddiv (FP.i2d (nI a)) (FP.i2d (nI (b + 1))) &&& 0x7fffffffffffffff ≤ 0x7ff0000000000000 := by decide +kernel
theorem sum_nat {N : Nat} {st : Int32} {v : Nat → Nat → Int32} (h : Ok N st v) : ∀ n : Nat, ∃ a : Nat, a ≤ 24 * n ∧ sumI (fun k => nt (v 0) st (k + 1)) n = nI a
  | 0 => ⟨0, Nat.le_refl _, rfl⟩
  | n + 1 => by
    obtain ⟨a, ha, ea⟩ := sum_nat h n
    obtain ⟨s, hs, es⟩ := h.2.1
    obtain ⟨b, hb, eb⟩ := nt_rng h hs (n + 1)
    rw [← es] at eb
    exact ⟨a + b, by omega, by rw [sumI, ea, eb, nI_add]⟩
theorem mean_fin {N : Nat} {st : Int32} {v : Nat → Nat → Int32} (h : Ok N st v) (h0 : 0 < N) : vf_n64 (FP.ddiv (FP.i2d (sumI (fun k => nt (v 0) st (k + 1)) N)) (FP.i2d (nI N))) := by
  obtain ⟨a, ha, ea⟩ := sum_nat h N
  obtain ⟨M, rfl⟩ : ∃ M, N = M + 1 := ⟨N - 1, by omega⟩
  have hN := h.1
  rw [ea]
  exact ddiv_fin a (by omega) M (by omega)
theorem mean_1 {N : Nat} {st : Int32} {v : Nat → Nat → Int32} (h0 : 0 < N) : FP.ddiv (FP.i2d (sumI (fun k => nt (v 0) st (k + 1)) N)) (FP.i2d (nI N)) = mean v st N := by unfold mean; rw [if_neg (by omega)]
theorem mean_0 {N : Nat} {st : Int32} {v : Nat → Nat → Int32} (h0 : N = 0) : 0 = mean v st N := by unfold mean; rw [if_pos h0]

theorem jyX0_addLeg : IM RX0 yX0_addLeg cX0_addLeg 5 (some .int) 3 := ⟨⟨ki_yX0_addLeg, kz_yX0_addLeg, kn_RX0, kd_yX0_addLeg⟩, by decide +kernel⟩
theorem jyX0_checkTurn : SM yX0_checkTurn cX0_checkTurn 1 none 1 := ⟨⟨ks_yX0_checkTurn, kn_RX0, kd_yX0_checkTurn⟩, by decide +kernel⟩
theorem jyX0_isLandmark : SM yX0_isLandmark cX0_isLandmark 1 (some .boolean) 1 := ⟨⟨ks_yX0_isLandmark, kn_RX0, kd_yX0_isLandmark⟩, by decide +kernel⟩
theorem jyX0_follow : IM RX0 yX0_follow cX0_follow 4 none 1 := ⟨⟨ki_yX0_follow, kz_yX0_follow, kn_RX0, kd_yX0_follow⟩, by decide +kernel⟩
theorem jyX0_headingAhead : IM RX0 yX0_headingAhead cX0_headingAhead 2 (some .int) 1 := ⟨⟨ki_yX0_headingAhead, kz_yX0_headingAhead, kn_RX0, kd_yX0_headingAhead⟩, by decide +kernel⟩
theorem jyJ9_floorMod_7cf53 : SM yJ9_floorMod_7cf53 cJ9_floorMod_7cf53 3 (some .int) 2 := ⟨⟨ks_yJ9_floorMod_7cf53, kn_RJ9, kd_yJ9_floorMod_7cf53⟩, by decide +kernel⟩
theorem jyX0_xAhead : IM RX0 yX0_xAhead cX0_xAhead 2 (some .int) 1 := ⟨⟨ki_yX0_xAhead, kz_yX0_xAhead, kn_RX0, kd_yX0_xAhead⟩, by decide +kernel⟩
theorem jyX0_yAhead : IM RX0 yX0_yAhead cX0_yAhead 2 (some .int) 1 := ⟨⟨ki_yX0_yAhead, kz_yX0_yAhead, kn_RX0, kd_yX0_yAhead⟩, by decide +kernel⟩
theorem jyX0_noteAhead : IM RX0 yX0_noteAhead cX0_noteAhead 2 (some .int) 1 := ⟨⟨ki_yX0_noteAhead, kz_yX0_noteAhead, kn_RX0, kd_yX0_noteAhead⟩, by decide +kernel⟩
theorem jyX0_noteBehind : SM yX0_noteBehind cX0_noteBehind 3 (some .int) 2 := ⟨⟨ks_yX0_noteBehind, kn_RX0, kd_yX0_noteBehind⟩, by decide +kernel⟩
theorem jyX0_leavesVoice : SM yX0_leavesVoice cX0_leavesVoice 1 (some .boolean) 1 := ⟨⟨ks_yX0_leavesVoice, kn_RX0, kd_yX0_leavesVoice⟩, by decide +kernel⟩
theorem jyX1_addLeg : IM RX1 yX1_addLeg cX1_addLeg 4 (some .int) 3 := ⟨⟨ki_yX1_addLeg, kz_yX1_addLeg, kn_RX1, kd_yX1_addLeg⟩, by decide +kernel⟩
theorem jyX1_isIn : SM yX1_isIn cX1_isIn 3 (some .boolean) 3 := ⟨⟨ks_yX1_isIn, kn_RX1, kd_yX1_isIn⟩, by decide +kernel⟩
theorem jyX1_isKind : SM yX1_isKind cX1_isKind 1 (some .boolean) 1 := ⟨⟨ks_yX1_isKind, kn_RX1, kd_yX1_isKind⟩, by decide +kernel⟩
theorem jyX1_no : IM RX1 yX1_no cX1_no 2 (some .int) 1 := ⟨⟨ki_yX1_no, kz_yX1_no, kn_RX1, kd_yX1_no⟩, by decide +kernel⟩
theorem jyX1_thrown : IM RX1 yX1_thrown cX1_thrown 1 (some .int) 0 := ⟨⟨ki_yX1_thrown, kz_yX1_thrown, kn_RX1, kd_yX1_thrown⟩, by decide +kernel⟩
theorem jyX0_strikeLeg : IM RX0 yX0_strikeLeg cX0_strikeLeg 1 (some .int) 0 := ⟨⟨ki_yX0_strikeLeg, kz_yX0_strikeLeg, kn_RX0, kd_yX0_strikeLeg⟩, by decide +kernel⟩
theorem jyX1_strikeLeg : IM RX1 yX1_strikeLeg cX1_strikeLeg 1 (some .int) 0 := ⟨⟨ki_yX1_strikeLeg, kz_yX1_strikeLeg, kn_RX1, kd_yX1_strikeLeg⟩, by decide +kernel⟩
theorem jyX0_bend : IM RX0 yX0_bend cX0_bend 4 (some .int) 2 := ⟨⟨ki_yX0_bend, kz_yX0_bend, kn_RX0, kd_yX0_bend⟩, by decide +kernel⟩
theorem jyX0_checkLeg : IM RX0 yX0_checkLeg cX0_checkLeg 2 none 1 := ⟨⟨ki_yX0_checkLeg, kz_yX0_checkLeg, kn_RX0, kd_yX0_checkLeg⟩, by decide +kernel⟩
theorem jyX0_dropMarks : IM RX0 yX0_dropMarks cX0_dropMarks 2 none 0 := ⟨⟨ki_yX0_dropMarks, kz_yX0_dropMarks, kn_RX0, kd_yX0_dropMarks⟩, by decide +kernel⟩
theorem jyX1_bend : IM RX1 yX1_bend cX1_bend 4 (some .int) 2 := ⟨⟨ki_yX1_bend, kz_yX1_bend, kn_RX1, kd_yX1_bend⟩, by decide +kernel⟩
theorem jyX1_isLeg : IM RX1 yX1_isLeg cX1_isLeg 2 (some .boolean) 1 := ⟨⟨ki_yX1_isLeg, kz_yX1_isLeg, kn_RX1, kd_yX1_isLeg⟩, by decide +kernel⟩
theorem jyX0_setWord : IM RX0 yX0_setWord cX0_setWord 4 (some .int) 2 := ⟨⟨ki_yX0_setWord, kz_yX0_setWord, kn_RX0, kd_yX0_setWord⟩, by decide +kernel⟩
theorem jyX0_checkLandmark : SM yX0_checkLandmark cX0_checkLandmark 1 none 1 := ⟨⟨ks_yX0_checkLandmark, kn_RX0, kd_yX0_checkLandmark⟩, by decide +kernel⟩
theorem jyX0_isWord : SM yX0_isWord cX0_isWord 1 (some .boolean) 1 := ⟨⟨ks_yX0_isWord, kn_RX0, kd_yX0_isWord⟩, by decide +kernel⟩
theorem jyX1_setWord : IM RX1 yX1_setWord cX1_setWord 4 (some .int) 2 := ⟨⟨ki_yX1_setWord, kz_yX1_setWord, kn_RX1, kd_yX1_setWord⟩, by decide +kernel⟩
theorem jyX0_setStep : IM RX0 yX0_setStep cX0_setStep 3 (some .int) 1 := ⟨⟨ki_yX0_setStep, kz_yX0_setStep, kn_RX0, kd_yX0_setStep⟩, by decide +kernel⟩
theorem jyX1_setStep : IM RX1 yX1_setStep cX1_setStep 3 (some .int) 1 := ⟨⟨ki_yX1_setStep, kz_yX1_setStep, kn_RX1, kd_yX1_setStep⟩, by decide +kernel⟩
theorem jyX0_legs : IM RX0 yX0_legs cX0_legs 1 (some .int) 0 := ⟨⟨ki_yX0_legs, kz_yX0_legs, kn_RX0, kd_yX0_legs⟩, by decide +kernel⟩
theorem jyX1_legs : IM RX1 yX1_legs cX1_legs 1 (some .int) 0 := ⟨⟨ki_yX1_legs, kz_yX1_legs, kn_RX1, kd_yX1_legs⟩, by decide +kernel⟩
theorem jyX1_ok : IM RX1 yX1_ok cX1_ok 2 (some .int) 1 := ⟨⟨ki_yX1_ok, kz_yX1_ok, kn_RX1, kd_yX1_ok⟩, by decide +kernel⟩
theorem jyX0_step : IM RX0 yX0_step cX0_step 1 (some .int) 0 := ⟨⟨ki_yX0_step, kz_yX0_step, kn_RX0, kd_yX0_step⟩, by decide +kernel⟩
theorem jyX1_step : IM RX1 yX1_step cX1_step 1 (some .int) 0 := ⟨⟨ki_yX1_step, kz_yX1_step, kn_RX1, kd_yX1_step⟩, by decide +kernel⟩
theorem jyX0_endX : IM RX0 yX0_endX cX0_endX 1 (some .int) 0 := ⟨⟨ki_yX0_endX, kz_yX0_endX, kn_RX0, kd_yX0_endX⟩, by decide +kernel⟩
theorem jyX1_endX : IM RX1 yX1_endX cX1_endX 1 (some .int) 0 := ⟨⟨ki_yX1_endX, kz_yX1_endX, kn_RX1, kd_yX1_endX⟩, by decide +kernel⟩
theorem jyX1_endOf : IM RX1 yX1_endOf cX1_endOf 2 (some .int) 1 := ⟨⟨ki_yX1_endOf, kz_yX1_endOf, kn_RX1, kd_yX1_endOf⟩, by decide +kernel⟩
theorem jyX1_walk : IM RX1 yX1_walk cX1_walk 2 none 0 := ⟨⟨ki_yX1_walk, kz_yX1_walk, kn_RX1, kd_yX1_walk⟩, by decide +kernel⟩
theorem jyX1_heading : IM RX1 yX1_heading cX1_heading 4 (some .int) 1 := ⟨⟨ki_yX1_heading, kz_yX1_heading, kn_RX1, kd_yX1_heading⟩, by decide +kernel⟩
theorem jyX0_endY : IM RX0 yX0_endY cX0_endY 1 (some .int) 0 := ⟨⟨ki_yX0_endY, kz_yX0_endY, kn_RX0, kd_yX0_endY⟩, by decide +kernel⟩
theorem jyX1_endY : IM RX1 yX1_endY cX1_endY 1 (some .int) 0 := ⟨⟨ki_yX1_endY, kz_yX1_endY, kn_RX1, kd_yX1_endY⟩, by decide +kernel⟩
theorem jyX0_stepsHome : IM RX0 yX0_stepsHome cX0_stepsHome 1 (some .int) 0 := ⟨⟨ki_yX0_stepsHome, kz_yX0_stepsHome, kn_RX0, kd_yX0_stepsHome⟩, by decide +kernel⟩
theorem jyX1_stepsHome : IM RX1 yX1_stepsHome cX1_stepsHome 1 (some .int) 0 := ⟨⟨ki_yX1_stepsHome, kz_yX1_stepsHome, kn_RX1, kd_yX1_stepsHome⟩, by decide +kernel⟩
theorem jyX1_home : IM RX1 yX1_home cX1_home 1 (some .int) 0 := ⟨⟨ki_yX1_home, kz_yX1_home, kn_RX1, kd_yX1_home⟩, by decide +kernel⟩
theorem jyX0_returns : IM RX0 yX0_returns cX0_returns 3 (some .int) 0 := ⟨⟨ki_yX0_returns, kz_yX0_returns, kn_RX0, kd_yX0_returns⟩, by decide +kernel⟩
theorem jyX0_endsWhereItWas : IM RX0 yX0_endsWhereItWas cX0_endsWhereItWas 3 (some .boolean) 1 := ⟨⟨ki_yX0_endsWhereItWas, kz_yX0_endsWhereItWas, kn_RX0, kd_yX0_endsWhereItWas⟩, by decide +kernel⟩
theorem jyX1_returns : IM RX1 yX1_returns cX1_returns 1 (some .int) 0 := ⟨⟨ki_yX1_returns, kz_yX1_returns, kn_RX1, kd_yX1_returns⟩, by decide +kernel⟩
theorem jyX1_back : IM RX1 yX1_back cX1_back 5 (some .int) 0 := ⟨⟨ki_yX1_back, kz_yX1_back, kn_RX1, kd_yX1_back⟩, by decide +kernel⟩
theorem jyX0_turnOf : IM RX0 yX0_turnOf cX0_turnOf 2 (some .int) 1 := ⟨⟨ki_yX0_turnOf, kz_yX0_turnOf, kn_RX0, kd_yX0_turnOf⟩, by decide +kernel⟩
theorem jyX1_turnOf : IM RX1 yX1_turnOf cX1_turnOf 2 (some .int) 1 := ⟨⟨ki_yX1_turnOf, kz_yX1_turnOf, kn_RX1, kd_yX1_turnOf⟩, by decide +kernel⟩
theorem jyX0_headingOf : IM RX0 yX0_headingOf cX0_headingOf 2 (some .int) 1 := ⟨⟨ki_yX0_headingOf, kz_yX0_headingOf, kn_RX0, kd_yX0_headingOf⟩, by decide +kernel⟩
theorem jyX1_headingOf : IM RX1 yX1_headingOf cX1_headingOf 2 (some .int) 1 := ⟨⟨ki_yX1_headingOf, kz_yX1_headingOf, kn_RX1, kd_yX1_headingOf⟩, by decide +kernel⟩
theorem jyX0_landmarkOf : IM RX0 yX0_landmarkOf cX0_landmarkOf 2 (some .int) 1 := ⟨⟨ki_yX0_landmarkOf, kz_yX0_landmarkOf, kn_RX0, kd_yX0_landmarkOf⟩, by decide +kernel⟩
theorem jyX1_landmarkOf : IM RX1 yX1_landmarkOf cX1_landmarkOf 2 (some .int) 1 := ⟨⟨ki_yX1_landmarkOf, kz_yX1_landmarkOf, kn_RX1, kd_yX1_landmarkOf⟩, by decide +kernel⟩
theorem jyX0_noteOf : IM RX0 yX0_noteOf cX0_noteOf 2 (some .int) 1 := ⟨⟨ki_yX0_noteOf, kz_yX0_noteOf, kn_RX0, kd_yX0_noteOf⟩, by decide +kernel⟩
theorem jyX1_noteOf : IM RX1 yX1_noteOf cX1_noteOf 2 (some .int) 1 := ⟨⟨ki_yX1_noteOf, kz_yX1_noteOf, kn_RX1, kd_yX1_noteOf⟩, by decide +kernel⟩
theorem jyX1_noteNow : IM RX1 yX1_noteNow cX1_noteNow 2 (some .int) 1 := ⟨⟨ki_yX1_noteNow, kz_yX1_noteNow, kn_RX1, kd_yX1_noteNow⟩, by decide +kernel⟩
theorem jyX1_sing : IM RX1 yX1_sing cX1_sing 3 none 1 := ⟨⟨ki_yX1_sing, kz_yX1_sing, kn_RX1, kd_yX1_sing⟩, by decide +kernel⟩
theorem jyX1_folds : SM yX1_folds cX1_folds 2 (some .boolean) 2 := ⟨⟨ks_yX1_folds, kn_RX1, kd_yX1_folds⟩, by decide +kernel⟩
theorem jyX0_isFolded : IM RX0 yX0_isFolded cX0_isFolded 2 (some .boolean) 1 := ⟨⟨ki_yX0_isFolded, kz_yX0_isFolded, kn_RX0, kd_yX0_isFolded⟩, by decide +kernel⟩
theorem jyX1_isFolded : IM RX1 yX1_isFolded cX1_isFolded 2 (some .boolean) 1 := ⟨⟨ki_yX1_isFolded, kz_yX1_isFolded, kn_RX1, kd_yX1_isFolded⟩, by decide +kernel⟩
theorem jyX1_isFoldedNow : IM RX1 yX1_isFoldedNow cX1_isFoldedNow 2 (some .boolean) 1 := ⟨⟨ki_yX1_isFoldedNow, kz_yX1_isFoldedNow, kn_RX1, kd_yX1_isFoldedNow⟩, by decide +kernel⟩
theorem jyX1_isNot : IM RX1 yX1_isNot cX1_isNot 2 (some .boolean) 1 := ⟨⟨ki_yX1_isNot, kz_yX1_isNot, kn_RX1, kd_yX1_isNot⟩, by decide +kernel⟩
theorem jyX0_wordIn : IM RX0 yX0_wordIn cX0_wordIn 2 (some .int) 1 := ⟨⟨ki_yX0_wordIn, kz_yX0_wordIn, kn_RX0, kd_yX0_wordIn⟩, by decide +kernel⟩
theorem jyX1_wordIn : IM RX1 yX1_wordIn cX1_wordIn 2 (some .int) 1 := ⟨⟨ki_yX1_wordIn, kz_yX1_wordIn, kn_RX1, kd_yX1_wordIn⟩, by decide +kernel⟩
theorem jyX0_wordOf : IM RX0 yX0_wordOf cX0_wordOf 2 (some .int) 1 := ⟨⟨ki_yX0_wordOf, kz_yX0_wordOf, kn_RX0, kd_yX0_wordOf⟩, by decide +kernel⟩
theorem jyX1_wordOf : IM RX1 yX1_wordOf cX1_wordOf 2 (some .int) 1 := ⟨⟨ki_yX1_wordOf, kz_yX1_wordOf, kn_RX1, kd_yX1_wordOf⟩, by decide +kernel⟩
theorem jyX0_beats : IM RX0 yX0_beats cX0_beats 3 (some .int) 0 := ⟨⟨ki_yX0_beats, kz_yX0_beats, kn_RX0, kd_yX0_beats⟩, by decide +kernel⟩
theorem jyX1_beats : IM RX1 yX1_beats cX1_beats 1 (some .int) 0 := ⟨⟨ki_yX1_beats, kz_yX1_beats, kn_RX1, kd_yX1_beats⟩, by decide +kernel⟩
theorem jyX1_allBeats : IM RX1 yX1_allBeats cX1_allBeats 3 (some .int) 0 := ⟨⟨ki_yX1_allBeats, kz_yX1_allBeats, kn_RX1, kd_yX1_allBeats⟩, by decide +kernel⟩
theorem jyX0_folded : IM RX0 yX0_folded cX0_folded 3 (some .int) 0 := ⟨⟨ki_yX0_folded, kz_yX0_folded, kn_RX0, kd_yX0_folded⟩, by decide +kernel⟩
theorem jyX1_folded : IM RX1 yX1_folded cX1_folded 1 (some .int) 0 := ⟨⟨ki_yX1_folded, kz_yX1_folded, kn_RX1, kd_yX1_folded⟩, by decide +kernel⟩
theorem jyX1_foldedNow : IM RX1 yX1_foldedNow cX1_foldedNow 3 (some .int) 0 := ⟨⟨ki_yX1_foldedNow, kz_yX1_foldedNow, kn_RX1, kd_yX1_foldedNow⟩, by decide +kernel⟩
theorem jyX0_range : IM RX0 yX0_range cX0_range 4 (some .int) 0 := ⟨⟨ki_yX0_range, kz_yX0_range, kn_RX0, kd_yX0_range⟩, by decide +kernel⟩
theorem jyX1_range : IM RX1 yX1_range cX1_range 1 (some .int) 0 := ⟨⟨ki_yX1_range, kz_yX1_range, kn_RX1, kd_yX1_range⟩, by decide +kernel⟩
theorem jyX1_wide : IM RX1 yX1_wide cX1_wide 4 (some .int) 0 := ⟨⟨ki_yX1_wide, kz_yX1_wide, kn_RX1, kd_yX1_wide⟩, by decide +kernel⟩
theorem jyX0_sungWith : IM RX0 yX0_sungWith cX0_sungWith 4 (some .int) 1 := ⟨⟨ki_yX0_sungWith, kz_yX0_sungWith, kn_RX0, kd_yX0_sungWith⟩, by decide +kernel⟩
theorem jyX0_checkWord : SM yX0_checkWord cX0_checkWord 1 none 1 := ⟨⟨ks_yX0_checkWord, kn_RX0, kd_yX0_checkWord⟩, by decide +kernel⟩
theorem jyX1_sungWith : IM RX1 yX1_sungWith cX1_sungWith 4 (some .int) 1 := ⟨⟨ki_yX1_sungWith, kz_yX1_sungWith, kn_RX1, kd_yX1_sungWith⟩, by decide +kernel⟩
theorem jyX0_readings : IM RX0 yX0_readings cX0_readings 3 (some .int) 1 := ⟨⟨ki_yX0_readings, kz_yX0_readings, kn_RX0, kd_yX0_readings⟩, by decide +kernel⟩
theorem jyX0_turnsSungAs : SM yX0_turnsSungAs cX0_turnsSungAs 6 (some .int) 4 := ⟨⟨ks_yX0_turnsSungAs, kn_RX0, kd_yX0_turnsSungAs⟩, by decide +kernel⟩
theorem jyX0_landmarksNamed : IM RX0 yX0_landmarksNamed cX0_landmarksNamed 5 (some .int) 2 := ⟨⟨ki_yX0_landmarksNamed, kz_yX0_landmarksNamed, kn_RX0, kd_yX0_landmarksNamed⟩, by decide +kernel⟩
theorem jyX1_readings : IM RX1 yX1_readings cX1_readings 2 (some .int) 1 := ⟨⟨ki_yX1_readings, kz_yX1_readings, kn_RX1, kd_yX1_readings⟩, by decide +kernel⟩
theorem jyX1_manyNow : IM RX1 yX1_manyNow cX1_manyNow 2 (some .int) 1 := ⟨⟨ki_yX1_manyNow, kz_yX1_manyNow, kn_RX1, kd_yX1_manyNow⟩, by decide +kernel⟩
theorem jyX1_many : IM RX1 yX1_many cX1_many 3 (some .int) 2 := ⟨⟨ki_yX1_many, kz_yX1_many, kn_RX1, kd_yX1_many⟩, by decide +kernel⟩
theorem jyX1_isTwofold : IM RX1 yX1_isTwofold cX1_isTwofold 3 (some .boolean) 2 := ⟨⟨ki_yX1_isTwofold, kz_yX1_isTwofold, kn_RX1, kd_yX1_isTwofold⟩, by decide +kernel⟩
theorem jyX1_alike : IM RX1 yX1_alike cX1_alike 4 (some .int) 1 := ⟨⟨ki_yX1_alike, kz_yX1_alike, kn_RX1, kd_yX1_alike⟩, by decide +kernel⟩
theorem jyX0_rightReading : IM RX0 yX0_rightReading cX0_rightReading 4 (some .int) 1 := ⟨⟨ki_yX0_rightReading, kz_yX0_rightReading, kn_RX0, kd_yX0_rightReading⟩, by decide +kernel⟩
theorem jyX1_rightReading : IM RX1 yX1_rightReading cX1_rightReading 2 (some .int) 1 := ⟨⟨ki_yX1_rightReading, kz_yX1_rightReading, kn_RX1, kd_yX1_rightReading⟩, by decide +kernel⟩
theorem jyX1_right : IM RX1 yX1_right cX1_right 4 (some .int) 1 := ⟨⟨ki_yX1_right, kz_yX1_right, kn_RX1, kd_yX1_right⟩, by decide +kernel⟩
theorem jyX0_isAmbiguous : IM RX0 yX0_isAmbiguous cX0_isAmbiguous 2 (some .boolean) 1 := ⟨⟨ki_yX0_isAmbiguous, kz_yX0_isAmbiguous, kn_RX0, kd_yX0_isAmbiguous⟩, by decide +kernel⟩
theorem jyX1_isAmbiguous : IM RX1 yX1_isAmbiguous cX1_isAmbiguous 2 (some .boolean) 1 := ⟨⟨ki_yX1_isAmbiguous, kz_yX1_isAmbiguous, kn_RX1, kd_yX1_isAmbiguous⟩, by decide +kernel⟩
theorem jyX1_isOpen : IM RX1 yX1_isOpen cX1_isOpen 2 (some .boolean) 1 := ⟨⟨ki_yX1_isOpen, kz_yX1_isOpen, kn_RX1, kd_yX1_isOpen⟩, by decide +kernel⟩
theorem jyX1_isMendedNow : IM RX1 yX1_isMendedNow cX1_isMendedNow 2 (some .boolean) 1 := ⟨⟨ki_yX1_isMendedNow, kz_yX1_isMendedNow, kn_RX1, kd_yX1_isMendedNow⟩, by decide +kernel⟩
theorem jyX0_isMended : IM RX0 yX0_isMended cX0_isMended 2 (some .boolean) 1 := ⟨⟨ki_yX0_isMended, kz_yX0_isMended, kn_RX0, kd_yX0_isMended⟩, by decide +kernel⟩
theorem jyX1_isMended : IM RX1 yX1_isMended cX1_isMended 2 (some .boolean) 1 := ⟨⟨ki_yX1_isMended, kz_yX1_isMended, kn_RX1, kd_yX1_isMended⟩, by decide +kernel⟩
theorem jyX0_mend : IM RX0 yX0_mend cX0_mend 2 (some .int) 1 := ⟨⟨ki_yX0_mend, kz_yX0_mend, kn_RX0, kd_yX0_mend⟩, by decide +kernel⟩
theorem jyX1_mend : IM RX1 yX1_mend cX1_mend 2 (some .int) 1 := ⟨⟨ki_yX1_mend, kz_yX1_mend, kn_RX1, kd_yX1_mend⟩, by decide +kernel⟩
theorem jyX0_mendTo : IM RX0 yX0_mendTo cX0_mendTo 4 (some .int) 1 := ⟨⟨ki_yX0_mendTo, kz_yX0_mendTo, kn_RX0, kd_yX0_mendTo⟩, by decide +kernel⟩
theorem jyX0_ways : IM RX0 yX0_ways cX0_ways 4 (some .long) 0 := ⟨⟨ki_yX0_ways, kz_yX0_ways, kn_RX0, kd_yX0_ways⟩, by decide +kernel⟩
theorem jyX0_mostAmbiguous : IM RX0 yX0_mostAmbiguous cX0_mostAmbiguous 5 (some .int) 0 := ⟨⟨ki_yX0_mostAmbiguous, kz_yX0_mostAmbiguous, kn_RX0, kd_yX0_mostAmbiguous⟩, by decide +kernel⟩
theorem jyX1_mendTo : IM RX1 yX1_mendTo cX1_mendTo 5 (some .int) 1 := ⟨⟨ki_yX1_mendTo, kz_yX1_mendTo, kn_RX1, kd_yX1_mendTo⟩, by decide +kernel⟩
theorem jyX1_all : IM RX1 yX1_all cX1_all 4 (some .long) 0 := ⟨⟨ki_yX1_all, kz_yX1_all, kn_RX1, kd_yX1_all⟩, by decide +kernel⟩
theorem jyX0_ambiguous : IM RX0 yX0_ambiguous cX0_ambiguous 3 (some .int) 0 := ⟨⟨ki_yX0_ambiguous, kz_yX0_ambiguous, kn_RX0, kd_yX0_ambiguous⟩, by decide +kernel⟩
theorem jyX1_ambiguous : IM RX1 yX1_ambiguous cX1_ambiguous 1 (some .int) 0 := ⟨⟨ki_yX1_ambiguous, kz_yX1_ambiguous, kn_RX1, kd_yX1_ambiguous⟩, by decide +kernel⟩
theorem jyX1_open : IM RX1 yX1_open cX1_open 3 (some .int) 0 := ⟨⟨ki_yX1_open, kz_yX1_open, kn_RX1, kd_yX1_open⟩, by decide +kernel⟩
theorem jyX1_ways : IM RX1 yX1_ways cX1_ways 1 (some .long) 0 := ⟨⟨ki_yX1_ways, kz_yX1_ways, kn_RX1, kd_yX1_ways⟩, by decide +kernel⟩
theorem jyX0_firstAmbiguous : IM RX0 yX0_firstAmbiguous cX0_firstAmbiguous 2 (some .int) 0 := ⟨⟨ki_yX0_firstAmbiguous, kz_yX0_firstAmbiguous, kn_RX0, kd_yX0_firstAmbiguous⟩, by decide +kernel⟩
theorem jyX1_firstAmbiguous : IM RX1 yX1_firstAmbiguous cX1_firstAmbiguous 1 (some .int) 0 := ⟨⟨ki_yX1_firstAmbiguous, kz_yX1_firstAmbiguous, kn_RX1, kd_yX1_firstAmbiguous⟩, by decide +kernel⟩
theorem jyX1_firstOpen : IM RX1 yX1_firstOpen cX1_firstOpen 2 (some .int) 0 := ⟨⟨ki_yX1_firstOpen, kz_yX1_firstOpen, kn_RX1, kd_yX1_firstOpen⟩, by decide +kernel⟩
theorem jyX0_ambiguousWith : IM RX0 yX0_ambiguousWith cX0_ambiguousWith 3 (some .int) 2 := ⟨⟨ki_yX0_ambiguousWith, kz_yX0_ambiguousWith, kn_RX0, kd_yX0_ambiguousWith⟩, by decide +kernel⟩
theorem jyX0_unmendedWith : IM RX0 yX0_unmendedWith cX0_unmendedWith 9 (some .int) 3 := ⟨⟨ki_yX0_unmendedWith, kz_yX0_unmendedWith, kn_RX0, kd_yX0_unmendedWith⟩, by decide +kernel⟩
theorem jyX0_sharesWordIf : IM RX0 yX0_sharesWordIf cX0_sharesWordIf 6 (some .boolean) 3 := ⟨⟨ki_yX0_sharesWordIf, kz_yX0_sharesWordIf, kn_RX0, kd_yX0_sharesWordIf⟩, by decide +kernel⟩
theorem jyX0_wordIf : IM RX0 yX0_wordIf cX0_wordIf 4 (some .int) 3 := ⟨⟨ki_yX0_wordIf, kz_yX0_wordIf, kn_RX0, kd_yX0_wordIf⟩, by decide +kernel⟩
theorem jyX1_ambiguousWith : IM RX1 yX1_ambiguousWith cX1_ambiguousWith 3 (some .int) 2 := ⟨⟨ki_yX1_ambiguousWith, kz_yX1_ambiguousWith, kn_RX1, kd_yX1_ambiguousWith⟩, by decide +kernel⟩
theorem jyX1_openWith : IM RX1 yX1_openWith cX1_openWith 5 (some .int) 2 := ⟨⟨ki_yX1_openWith, kz_yX1_openWith, kn_RX1, kd_yX1_openWith⟩, by decide +kernel⟩
theorem jyX1_openBy : IM RX1 yX1_openBy cX1_openBy 4 (some .int) 1 := ⟨⟨ki_yX1_openBy, kz_yX1_openBy, kn_RX1, kd_yX1_openBy⟩, by decide +kernel⟩
theorem jyX0_bestWord : IM RX0 yX0_bestWord cX0_bestWord 6 (some .int) 1 := ⟨⟨ki_yX0_bestWord, kz_yX0_bestWord, kn_RX0, kd_yX0_bestWord⟩, by decide +kernel⟩
theorem jyX1_bestWord : IM RX1 yX1_bestWord cX1_bestWord 2 (some .int) 1 := ⟨⟨ki_yX1_bestWord, kz_yX1_bestWord, kn_RX1, kd_yX1_bestWord⟩, by decide +kernel⟩
theorem jyX1_wordFor : IM RX1 yX1_wordFor cX1_wordFor 4 (some .int) 1 := ⟨⟨ki_yX1_wordFor, kz_yX1_wordFor, kn_RX1, kd_yX1_wordFor⟩, by decide +kernel⟩
theorem jyX0_bestStep : IM RX0 yX0_bestStep cX0_bestStep 5 (some .int) 0 := ⟨⟨ki_yX0_bestStep, kz_yX0_bestStep, kn_RX0, kd_yX0_bestStep⟩, by decide +kernel⟩
theorem jyX1_bestStep : IM RX1 yX1_bestStep cX1_bestStep 1 (some .int) 0 := ⟨⟨ki_yX1_bestStep, kz_yX1_bestStep, kn_RX1, kd_yX1_bestStep⟩, by decide +kernel⟩
theorem jyX1_stepFor : IM RX1 yX1_stepFor cX1_stepFor 3 (some .int) 0 := ⟨⟨ki_yX1_stepFor, kz_yX1_stepFor, kn_RX1, kd_yX1_stepFor⟩, by decide +kernel⟩
theorem jyX0_meanNote : IM RX0 yX0_meanNote cX0_meanNote 3 (some .double) 0 := ⟨⟨ki_yX0_meanNote, kz_yX0_meanNote, kn_RX0, kd_yX0_meanNote⟩, by decide +kernel⟩
theorem jyX1_meanNote : IM RX1 yX1_meanNote cX1_meanNote 3 (some .double) 0 := ⟨⟨ki_yX1_meanNote, kz_yX1_meanNote, kn_RX1, kd_yX1_meanNote⟩, by decide +kernel⟩
theorem jyX0_digest : IM RX0 yX0_digest cX0_digest 4 (some .long) 0 := ⟨⟨ki_yX0_digest, kz_yX0_digest, kn_RX0, kd_yX0_digest⟩, by decide +kernel⟩
theorem jyX0_digested : SM yX0_digested cX0_digested 4 (some .long) 2 := ⟨⟨ks_yX0_digested, kn_RX0, kd_yX0_digested⟩, by decide +kernel⟩
theorem jyX0_digestOfLeg : IM RX0 yX0_digestOfLeg cX0_digestOfLeg 6 (some .long) 2 := ⟨⟨ki_yX0_digestOfLeg, kz_yX0_digestOfLeg, kn_RX0, kd_yX0_digestOfLeg⟩, by decide +kernel⟩
theorem jyX1_digest : IM RX1 yX1_digest cX1_digest 10 (some .long) 0 := ⟨⟨ki_yX1_digest, kz_yX1_digest, kn_RX1, kd_yX1_digest⟩, by decide +kernel⟩
end
section
section P20
variable {l : Launch} {D : va_G} {cyI cyZ : ClassId} {q : Nat → Nat} {N K : Nat} {n st th md : Int32} {v w : Nat → Nat → Int32} {mk : Nat → Bool}
variable {t1 : Nat}
set_option maxHeartbeats 4000000 in
set_option maxRecDepth 100000 in
theorem mX1_isIn (x lo hi : Int32) : Met l yX1_isIn (wm yX1_isIn cX1_isIn 3 (some .boolean)) ({ frames := 0, cells := 0, slots := 0, locals := 0 } : Room) (va_Pc [.int x, .int lo, .int hi] (fun U => (fun _ _ => True : State → Heap → Prop) U U.heap)) (vp_Si (fun r => r = b2i (isI x lo hi))) 0 0 (fun _ => False) := by
  refine mt (by decide) (Nat.le_of_ble_eq_true rfl) ?_
  intro p ev s m below meth c ls hF hr hlocks hnm hX hl
  have hF : CallFix p m c cX1_isIn 3 s _ wA RX1 := hF
  obtain ⟨hx, hb, hml, hown, hts⟩ := id hF
  have hl : lv_has ls 3 [(0, .int x), (1, .int lo), (2, .int hi)] := hl
  refine lv_iload_n hx hb dX1_isIn_0 rfl (lv_at hl 0 rfl) ?_
  refine lv_iload_n hx hb dX1_isIn_1 rfl (lv_at hl 1 rfl) ?_
  refine lv_icmp_lt (tgt := 14) hx hb dX1_isIn_2 (by decide) (fun c2 => ?_) (fun c2 => ?_)
  · refine lv_iconst (v := 0) hx hb dX1_isIn_14 (by decide) ?_
    exact W.zret hx hb hr rfl (fun t ht hW => ⟨_, rfl, b2i_0 (by simp [isI, Int32.not_le.mpr c2]), ht⟩) (fun q hq => absurd hq List.not_mem_nil) dX1_isIn_15
  · refine lv_iload_n hx hb dX1_isIn_5 rfl (lv_at hl 0 rfl) ?_
    refine lv_iload_n hx hb dX1_isIn_6 rfl (lv_at hl 2 rfl) ?_
    refine lv_icmp_gt (tgt := 14) hx hb dX1_isIn_7 (by decide) (fun c7 => ?_) (fun c7 => ?_)
    · refine lv_iconst (v := 0) hx hb dX1_isIn_14 (by decide) ?_
      exact W.zret hx hb hr rfl (fun t ht hW => ⟨_, rfl, b2i_0 (by simp [isI, Int32.not_le.mpr c7]), ht⟩) (fun q hq => absurd hq List.not_mem_nil) dX1_isIn_15
    · refine lv_iconst (v := 1) hx hb dX1_isIn_10 (by decide) ?_
      refine lv_goto (tgt := 15) hx hb dX1_isIn_11 (by decide) ?_
      exact W.zret hx hb hr rfl (fun t ht hW => ⟨_, rfl, b2i_1 (by simp [isI, Int32.not_lt.mp c2, Int32.not_lt.mp c7]), ht⟩) (fun q hq => absurd hq List.not_mem_nil) dX1_isIn_15
set_option maxHeartbeats 4000000 in
set_option maxRecDepth 100000 in
theorem mX1_isLeg (x : Int32) : Met l yX1_isLeg (wm yX1_isLeg cX1_isLeg 2 (some .boolean)) ({ frames := 1, cells := 0, slots := 0, locals := 22 } : Room) (va_Pc [.ref (q 0), .int x] (fun U => M0 D cyI cyZ q th (nI N) st md v w U U.heap)) (vp_Si (fun r => r = b2i (legB N x))) 0 0 (fun _ => False) := by
  refine mt (by decide) (Nat.le_of_ble_eq_true rfl) ?_
  intro p ev s m below meth c ls hF hr hlocks hnm hX hl
  have hF : CallFix p m c cX1_isLeg 2 s _ wA RX1 := hF
  obtain ⟨hx, hb, hml, hown, hts⟩ := id hF
  have hX : M0 D cyI cyZ q th (nI N) st md v w s s.heap := hX
  have hl : lv_has ls 2 [(0, .ref (q 0)), (1, .int x)] := hl
  refine lv_iload_n hx hb dX1_isLeg_0 rfl (lv_at hl 1 rfl) ?_
  refine lv_iconst (v := 0) hx hb dX1_isLeg_1 (by decide) ?_
  refine lv_aload_n hx hb dX1_isLeg_2 rfl (lv_at hl 0 rfl) ?_
  refine M0.get hF hX 1 (by decide) rfl rfl kf_RX1_38 dX1_isLeg_3 ?_
  refine lv_iconst (v := 1) hx hb dX1_isLeg_6 (by decide) ?_
  refine lv_isub hx hb dX1_isLeg_7 ?_
  refine cSi (As := [.int x, .int 0, .int ((nI N) - 1)]) (rest := []) hF (mX1_isIn x 0 ((nI N) - 1)) Mv.const trivial jyX1_isIn kl_RX1_41 ⟨rfl, rfl⟩ ⟨Nat.le_of_ble_eq_true rfl, Nat.le_of_ble_eq_true rfl⟩ rfl hl.1 rfl (Nat.le_of_ble_eq_true rfl) ⟨Nat.zero_le _, Nat.zero_le _⟩ dX1_isLeg_8 (fun r hr9 => ?_)
  subst hr9
  exact W.zret hx hb hr b2i_nar (fun t ht hW => ⟨_, rfl, rfl, ht⟩) (fun q hq => absurd hq List.not_mem_nil) dX1_isLeg_11
set_option maxHeartbeats 4000000 in
set_option maxRecDepth 100000 in
theorem mX1_isKind (x : Int32) : Met l yX1_isKind (wm yX1_isKind cX1_isKind 1 (some .boolean)) ({ frames := 1, cells := 0, slots := 0, locals := 22 } : Room) (va_Pc [.int x] (fun U => (fun _ _ => True : State → Heap → Prop) U U.heap)) (vp_Si (fun r => r = b2i (isI x 0 9))) 0 0 (fun _ => False) := by
  refine mt (by decide) (Nat.le_of_ble_eq_true rfl) ?_
  intro p ev s m below meth c ls hF hr hlocks hnm hX hl
  have hF : CallFix p m c cX1_isKind 1 s _ wA RX1 := hF
  obtain ⟨hx, hb, hml, hown, hts⟩ := id hF
  have hl : lv_has ls 1 [(0, .int x)] := hl
  refine lv_iload_n hx hb dX1_isKind_0 rfl (lv_at hl 0 rfl) ?_
  refine lv_iconst (v := 0) hx hb dX1_isKind_1 (by decide) ?_
  refine lv_bipush (v := 9) hx hb dX1_isKind_2 (by decide) ?_
  refine cSi (As := [.int x, .int 0, .int 9]) (rest := []) hF (mX1_isIn x 0 9) Mv.const trivial jyX1_isIn kl_RX1_41 ⟨rfl, rfl⟩ ⟨Nat.le_of_ble_eq_true rfl, Nat.le_of_ble_eq_true rfl⟩ rfl hl.1 rfl (Nat.le_of_ble_eq_true rfl) ⟨Nat.zero_le _, Nat.zero_le _⟩ dX1_isKind_4 (fun r hr9 => ?_)
  subst hr9
  exact W.zret hx hb hr b2i_nar (fun t ht hW => ⟨_, rfl, rfl, ht⟩) (fun q hq => absurd hq List.not_mem_nil) dX1_isKind_7
set_option maxHeartbeats 4000000 in
set_option maxRecDepth 100000 in
theorem mX1_folds (a i : Int32) : Met l yX1_folds (wm yX1_folds cX1_folds 2 (some .boolean)) ({ frames := 1, cells := 0, slots := 0, locals := 22 } : Room) (va_Pc [.int a, .int i] (fun U => (fun _ _ => True : State → Heap → Prop) U U.heap)) (vp_Si (fun r => r = b2i (lv9 (a + i)))) 0 0 (fun _ => False) := by
  refine mt (by decide) (Nat.le_of_ble_eq_true rfl) ?_
  intro p ev s m below meth c ls hF hr hlocks hnm hX hl
  have hF : CallFix p m c cX1_folds 2 s _ wA RX1 := hF
  obtain ⟨hx, hb, hml, hown, hts⟩ := id hF
  have hl : lv_has ls 2 [(0, .int a), (1, .int i)] := hl
  refine lv_iload_n hx hb dX1_folds_0 rfl (lv_at hl 0 rfl) ?_
  refine lv_iload_n hx hb dX1_folds_1 rfl (lv_at hl 1 rfl) ?_
  refine lv_iadd hx hb dX1_folds_2 ?_
  refine lv_iconst (v := 0) hx hb dX1_folds_3 (by decide) ?_
  refine lv_bipush (v := 24) hx hb dX1_folds_4 (by decide) ?_
  refine cSi (As := [.int (a + i), .int 0, .int 24]) (rest := []) hF (mX1_isIn (a + i) 0 24) Mv.const trivial jyX1_isIn kl_RX1_41 ⟨rfl, rfl⟩ ⟨Nat.le_of_ble_eq_true rfl, Nat.le_of_ble_eq_true rfl⟩ rfl hl.1 rfl (Nat.le_of_ble_eq_true rfl) ⟨Nat.zero_le _, Nat.zero_le _⟩ dX1_folds_6 (fun r hr9 => ?_)
  subst hr9
  refine lv_if_ne (tgt := 16) hx hb dX1_folds_9 (by decide) (fun c9 => ?_) (fun c9 => ?_)
  · have c9b := b2i_t c9
    refine lv_iconst (v := 0) hx hb dX1_folds_16 (by decide) ?_
    exact W.zret hx hb hr rfl (fun t ht hW => ⟨_, rfl, b2i_0 (by rw [lv9_isI, c9b]; rfl), ht⟩) (fun q hq => absurd hq List.not_mem_nil) dX1_folds_17
  · have c9b := b2i_f c9
    refine lv_iconst (v := 1) hx hb dX1_folds_12 (by decide) ?_
    refine lv_goto (tgt := 17) hx hb dX1_folds_13 (by decide) ?_
    exact W.zret hx hb hr rfl (fun t ht hW => ⟨_, rfl, b2i_1 (by rw [lv9_isI, c9b]; rfl), ht⟩) (fun q hq => absurd hq List.not_mem_nil) dX1_folds_17
set_option maxHeartbeats 4000000 in
set_option maxRecDepth 100000 in
theorem mX1_thrown  : Met l yX1_thrown (wm yX1_thrown cX1_thrown 1 (some .int)) ({ frames := 0, cells := 0, slots := 0, locals := 0 } : Room) (va_Pc [.ref (q 0)] (fun U => M0 D cyI cyZ q th n st md v w U U.heap)) (vp_Si (fun r => r = th)) 0 0 (fun _ => False) := by
  refine mt (by decide) (Nat.le_of_ble_eq_true rfl) ?_
  intro p ev s m below meth c ls hF hr hlocks hnm hX hl
  have hF : CallFix p m c cX1_thrown 1 s _ wA RX1 := hF
  obtain ⟨hx, hb, hml, hown, hts⟩ := id hF
  have hX : M0 D cyI cyZ q th n st md v w s s.heap := hX
  have hl : lv_has ls 1 [(0, .ref (q 0))] := hl
  refine lv_aload_n hx hb dX1_thrown_0 rfl (lv_at hl 0 rfl) ?_
  refine M0.get hF hX 0 (by decide) rfl rfl kf_RX1_35 dX1_thrown_1 ?_
  exact W.iret hx hb hr (fun t ht hW => ⟨_, rfl, rfl, ht⟩) (fun q hq => absurd hq List.not_mem_nil) dX1_thrown_4
set_option maxHeartbeats 4000000 in
set_option maxRecDepth 100000 in
theorem mX1_heading (hok : Ok N st v) (i : Nat) (hi : i < N) : Met l yX1_heading (wm yX1_heading cX1_heading 4 (some .int)) ({ frames := 0, cells := 0, slots := 0, locals := 0 } : Room) (va_Pc [.ref (q 0), .int (nI i)] (fun U => M0 D cyI cyZ q th (nI N) st md v w U U.heap)) (vp_Si (fun r => r = hd (v 0) (i + 1))) 0 0 (fun _ => False) := by
  refine mt (by decide) (Nat.le_of_ble_eq_true rfl) ?_
  intro p ev s m below meth c ls hF hr hlocks hnm hX hl
  have hF : CallFix p m c cX1_heading 4 s _ wA RX1 := hF
  obtain ⟨hx, hb, hml, hown, hts⟩ := id hF
  have hX : M0 D cyI cyZ q th (nI N) st md v w s s.heap := hX
  have hl : lv_has ls 4 [(0, .ref (q 0)), (1, .int (nI i))] := hl
  have hN := hok.1
  refine lv_iconst (v := 0) hx hb dX1_heading_0 (by decide) ?_
  refine lv_istore_n (lv' := [(2, .int 0), (0, .ref (q 0)), (1, .int (nI i))]) hx hb dX1_heading_1 rfl hl (by decide) rfl (fun ls hl => ?_)
  refine lv_iconst (v := 0) hx hb dX1_heading_2 (by decide) ?_
  refine lv_istore_n (lv' := [(3, .int 0), (2, .int 0), (0, .ref (q 0)), (1, .int (nI i))]) hx hb dX1_heading_3 rfl hl (by decide) rfl (fun ls hl => ?_)
  refine lpW (σ := Nat) (fun j ls => (j ≤ i + 1) ∧ lv_has ls 4 [(0, .ref (q 0)), (1, .int (nI i)), (2, .int (hsum (v 0) j)), (3, .int (nI j))]) (fun j => i + 1 - j) (fun j ls hI ih => ?_) (0) ⟨by omega, lv_sub hl [2, 3, 1, 0] rfl⟩
  obtain ⟨hj, hl⟩ := hI
  refine lv_iload_n hx hb dX1_heading_4 rfl (lv_at hl 3 rfl) ?_
  refine lv_iload_n hx hb dX1_heading_5 rfl (lv_at hl 1 rfl) ?_
  refine lv_icmp_gt (tgt := 27) hx hb dX1_heading_6 (by decide) (fun c6 => ?_) (fun c6 => ?_)
  · have c6n : i < j := (nI_ltI (a := i) (b := j) (by omega) (by omega)).mp c6
    obtain rfl : j = i + 1 := by omega
    refine lv_iload_n hx hb dX1_heading_27 rfl (lv_at hl 2 rfl) ?_
    refine lv_bipush (v := 8) hx hb dX1_heading_28 (by decide) ?_
    refine lv_irem hx hb dX1_heading_30 (by decide) ?_
    exact W.iret hx hb hr (fun t ht hW => ⟨_, rfl, hsum_hd hok (by omega), ht⟩) (fun q hq => absurd hq List.not_mem_nil) dX1_heading_31
  · have c6n : ¬ i < j := fun h9 => c6 ((nI_ltI (a := i) (b := j) (by omega) (by omega)).mpr h9)
    refine lv_iload_n hx hb dX1_heading_9 rfl (lv_at hl 2 rfl) ?_
    refine lv_aload_n hx hb dX1_heading_10 rfl (lv_at hl 0 rfl) ?_
    refine M0.get hF hX 3 (by decide) rfl rfl kf_RX1_13 dX1_heading_11 ?_
    refine lv_iload_n hx hb dX1_heading_14 rfl (lv_at hl 3 rfl) ?_
    refine aldI hF hX.2.1 hX.1 1 0 rfl rfl j (by omega) (by decide) rfl dX1_heading_15 ?_
    refine lv_bipush (v := 8) hx hb dX1_heading_16 (by decide) ?_
    refine lv_iadd hx hb dX1_heading_18 ?_
    refine lv_iadd hx hb dX1_heading_19 ?_
    refine lv_istore_n (lv' := [(2, .int ((hsum (v 0) j) + ((v 0 j) + 8))), (0, .ref (q 0)), (1, .int (nI i)), (3, .int (nI j))]) hx hb dX1_heading_20 rfl hl (by decide) rfl (fun ls hl => ?_)
    refine lv_iinc (v := (nI (j + 1))) (lv' := [(3, .int (nI (j + 1))), (2, .int ((hsum (v 0) j) + ((v 0 j) + 8))), (0, .ref (q 0)), (1, .int (nI i))]) hx hb dX1_heading_21 hl (k := 3) rfl (nI_1 _) (by decide) rfl (fun ls hl => ?_)
    refine lv_goto (tgt := 4) hx hb dX1_heading_24 (by decide) ?_
    exact ih (j + 1) ls (by omega) ⟨by omega, by exact lv_sub hl [2, 3, 1, 0] rfl⟩
set_option maxHeartbeats 4000000 in
set_option maxRecDepth 100000 in
theorem mX1_walk (hok : Ok N st v) : Met l yX1_walk (wm yX1_walk cX1_walk 2 none) ({ frames := 1, cells := 0, slots := 0, locals := 23 } : Room) (va_Pc [.ref (q 0)] (fun U => (fun U H => M0 D cyI cyZ q th (nI N) st md v w U H ∧ (SM1 t1 (own 8 q)) U H : State → Heap → Prop) U U.heap)) (va_Qv (fun (u : Nat → Nat → Int32) => Wk N v u) (fun u U => (fun (u : Nat → Nat → Int32) => (M0 D cyI cyZ q th (nI N) st md v u : State → Heap → Prop)) u U U.heap) (own 8 q)) 0 0 (own 8 q) := by
  refine mt (by decide) (Nat.le_of_ble_eq_true rfl) ?_
  intro p ev s m below meth c ls hF hr hlocks hnm hX hl
  have hF : CallFix p m c cX1_walk 2 s _ wA RX1 := hF
  obtain ⟨hx, hb, hml, hown, hts⟩ := id hF
  have hZ0 : (SM1 t1 (own 8 q)) s s.heap := hX.2
  have hX : M0 D cyI cyZ q th (nI N) st md v w s s.heap := hX.1
  have hl : lv_has ls 2 [(0, .ref (q 0))] := hl
  have hS : va_S (own 8 q) s.heap s.heap [] := va_S.rf
  have hN := hok.1
  refine lv_aload_n hx hb dX1_walk_0 rfl (lv_at hl 0 rfl) ?_
  refine M0.get hF hX 9 (by decide) rfl rfl kf_RX1_29 dX1_walk_1 ?_
  refine lv_iconst (v := 0) hx hb dX1_walk_4 (by decide) ?_
  refine lv_iconst (v := 0) hx hb dX1_walk_5 (by decide) ?_
  refine M0.st_w1 hF hX hS 0 (by omega) rfl dX1_walk_6 (fun H locs hX hS => ?_)
  refine lv_aload_n hx hb dX1_walk_7 rfl (lv_at hl 0 rfl) ?_
  refine M0.get hF hX 10 (by decide) rfl rfl kf_RX1_32 dX1_walk_8 ?_
  refine lv_iconst (v := 0) hx hb dX1_walk_11 (by decide) ?_
  refine lv_iconst (v := 0) hx hb dX1_walk_12 (by decide) ?_
  refine M0.st_w2 hF hX hS 0 (by omega) rfl dX1_walk_13 (fun H locs hX hS => ?_)
  refine lv_iconst (v := 0) hx hb dX1_walk_14 (by decide) ?_
  refine lv_istore_n (lv' := [(1, .int 0), (0, .ref (q 0))]) hx hb dX1_walk_15 rfl hl (by decide) rfl (fun ls hl => ?_)
  refine lpH2 (σ := Nat) (τ := Nat → Nat → Int32) (fun j w ls H locs => (j ≤ N ∧ ∀ k, k ≤ j → w 1 k = px (v 0) (v 1) k ∧ w 2 k = py (v 0) (v 1) k) ∧ M0 D cyI cyZ q th (nI N) st md v w s H ∧ va_S (own 8 q) s.heap H locs ∧ lv_has ls 2 [(0, .ref (q 0)), (1, .int (nI j))]) (fun j w => N - j) (fun j w ls H locs hI ih => ?_) (0) (va_up (va_up w 1 (upd (w 1) 0 0)) 2 (upd ((va_up w 1 (upd (w 1) 0 0)) 2) 0 0)) ⟨⟨Nat.zero_le _, wk_0⟩, hX, hS, lv_sub hl [1, 0] rfl⟩
  obtain ⟨hj, hX, hS, hl⟩ := hI
  refine lv_iload_n hx hb dX1_walk_16 rfl (lv_at hl 1 rfl) ?_
  refine lv_aload_n hx hb dX1_walk_17 rfl (lv_at hl 0 rfl) ?_
  refine M0.get hF hX 1 (by decide) rfl rfl kf_RX1_38 dX1_walk_18 ?_
  refine lv_icmp_ge (tgt := 97) hx hb dX1_walk_21 (by decide) (fun c21 => ?_) (fun c21 => ?_)
  · have c21n : N ≤ j := (nI_leI (a := N) (b := j) (by omega) (by omega)).mp c21
    obtain rfl : j = N := by omega
    exact W.vret hx hb hr (fun t ht hW => ⟨⟨w, rfl, hj.2, wEnd M0.mv hX ht hW⟩, hS.F ht⟩) hS.2.2 dX1_walk_97
  · have c21n : ¬ N ≤ j := fun h9 => c21 ((nI_leI (a := N) (b := j) (by omega) (by omega)).mpr h9)
    refine lv_aload_n hx hb dX1_walk_24 rfl (lv_at hl 0 rfl) ?_
    refine M0.get hF hX 9 (by decide) rfl rfl kf_RX1_29 dX1_walk_25 ?_
    refine lv_iload_n hx hb dX1_walk_28 rfl (lv_at hl 1 rfl) ?_
    refine lv_iconst (v := 1) hx hb dX1_walk_29 (by decide) ?_
    refine lv_iadd hx hb dX1_walk_30 ?_
    refine lv_aload_n hx hb dX1_walk_31 rfl (lv_at hl 0 rfl) ?_
    refine M0.get hF hX 9 (by decide) rfl rfl kf_RX1_29 dX1_walk_32 ?_
    refine lv_iload_n hx hb dX1_walk_35 rfl (lv_at hl 1 rfl) ?_
    refine aldI hF hX.2.1 hX.1 6 0 rfl rfl j (by omega) (by decide) rfl dX1_walk_36 ?_
    refine lv_aload_n hx hb dX1_walk_37 rfl (lv_at hl 0 rfl) ?_
    refine M0.get hF hX 4 (by decide) rfl rfl kf_RX1_17 dX1_walk_38 ?_
    refine lv_iload_n hx hb dX1_walk_41 rfl (lv_at hl 1 rfl) ?_
    refine aldI hF hX.2.1 hX.1 2 0 rfl rfl j (by omega) (by decide) rfl dX1_walk_42 ?_
    refine va_gets hx hb hZ0.1 hS hown (hts _ kf_RX1_45) (fun _ h9 => h9) dX1_walk_43 ?_
    refine lv_aload_n hx hb dX1_walk_46 rfl (lv_at hl 0 rfl) ?_
    refine lv_iload_n hx hb dX1_walk_47 rfl (lv_at hl 1 rfl) ?_
    refine cVi (As := [.int (nI j)]) (rest := [.ref t1, .int (v 1 j), .int (w 1 j), .int ((nI j) + 1), .ref (q 6)]) hF (mX1_heading hok j (by omega)) M0.mv hX (M0.rc hX) jyX1_heading kl_RX1_48 ⟨rfl, rfl⟩ ⟨Nat.le_of_ble_eq_true rfl, Nat.le_of_ble_eq_true rfl⟩ rfl hl.1 rfl (Nat.le_of_ble_eq_true rfl) ⟨Nat.zero_le _, Nat.zero_le _⟩ dX1_walk_48 (fun r hr9 => ?_)
    subst hr9
    refine aldT hF hZ0.2 hS (ix (hd (v 0) (j + 1))) (hd_ix8 hok (j + 1)) (by decide) (hd_ix hok (j + 1)) rfl dX1_walk_51 ?_
    refine lv_imul hx hb dX1_walk_52 ?_
    refine lv_iadd hx hb dX1_walk_53 ?_
    refine topI (show ((w 1 j) + ((v 1 j) * (eaT (ix (hd (v 0) (j + 1)))))) = px (v 0) (v 1) (j + 1) from wk_x (hj.2 j (Nat.le_refl j)).1) ?_
    refine M0.st_w1 hF hX hS (j + 1) (by omega) (nI_1 j) dX1_walk_54 (fun H locs hX hS => ?_)
    refine lv_aload_n hx hb dX1_walk_55 rfl (lv_at hl 0 rfl) ?_
    refine M0.get hF hX 10 (by decide) rfl rfl kf_RX1_32 dX1_walk_56 ?_
    refine lv_iload_n hx hb dX1_walk_59 rfl (lv_at hl 1 rfl) ?_
    refine lv_iconst (v := 1) hx hb dX1_walk_60 (by decide) ?_
    refine lv_iadd hx hb dX1_walk_61 ?_
    refine lv_aload_n hx hb dX1_walk_62 rfl (lv_at hl 0 rfl) ?_
    refine M0.get hF hX 10 (by decide) rfl rfl kf_RX1_32 dX1_walk_63 ?_
    refine lv_iload_n hx hb dX1_walk_66 rfl (lv_at hl 1 rfl) ?_
    refine aldI hF hX.2.1 hX.1 7 0 rfl rfl j (by omega) (by decide) rfl dX1_walk_67 ?_
    refine lv_aload_n hx hb dX1_walk_68 rfl (lv_at hl 0 rfl) ?_
    refine M0.get hF hX 4 (by decide) rfl rfl kf_RX1_17 dX1_walk_69 ?_
    refine lv_iload_n hx hb dX1_walk_72 rfl (lv_at hl 1 rfl) ?_
    refine aldI hF hX.2.1 hX.1 2 0 rfl rfl j (by omega) (by decide) rfl dX1_walk_73 ?_
    refine va_gets hx hb hZ0.1 hS hown (hts _ kf_RX1_45) (fun _ h9 => h9) dX1_walk_74 ?_
    refine lv_aload_n hx hb dX1_walk_77 rfl (lv_at hl 0 rfl) ?_
    refine lv_iload_n hx hb dX1_walk_78 rfl (lv_at hl 1 rfl) ?_
    refine cVi (As := [.int (nI j)]) (rest := [.ref t1, .int (v 1 j), .int ((va_up w 1 (upd (w 1) (j + 1) (px (v 0) (v 1) (j + 1)))) 2 j), .int ((nI j) + 1), .ref (q 7)]) hF (mX1_heading hok j (by omega)) M0.mv hX (M0.rc hX) jyX1_heading kl_RX1_48 ⟨rfl, rfl⟩ ⟨Nat.le_of_ble_eq_true rfl, Nat.le_of_ble_eq_true rfl⟩ rfl hl.1 rfl (Nat.le_of_ble_eq_true rfl) ⟨Nat.zero_le _, Nat.zero_le _⟩ dX1_walk_79 (fun r hr9 => ?_)
    subst hr9
    refine lv_iconst (v := 2) hx hb dX1_walk_82 (by decide) ?_
    refine lv_iadd hx hb dX1_walk_83 ?_
    refine lv_bipush (v := 8) hx hb dX1_walk_84 (by decide) ?_
    refine lv_irem hx hb dX1_walk_86 (by decide) ?_
    refine aldT hF hZ0.2 hS ((ix (hd (v 0) (j + 1)) + 2) % 8) (Nat.mod_lt _ (by decide)) (by decide) (hd_y hok (j + 1)) rfl dX1_walk_87 ?_
    refine topI (show (eaT ((ix (hd (v 0) (j + 1)) + 2) % 8)) = noT (ix (hd (v 0) (j + 1))) from noT_y hok (j + 1)) ?_
    refine lv_imul hx hb dX1_walk_88 ?_
    refine lv_iadd hx hb dX1_walk_89 ?_
    refine topI (show (((va_up w 1 (upd (w 1) (j + 1) (px (v 0) (v 1) (j + 1)))) 2 j) + ((v 1 j) * (noT (ix (hd (v 0) (j + 1)))))) = py (v 0) (v 1) (j + 1) from wk_y (hj.2 j (Nat.le_refl j)).2) ?_
    refine M0.st_w2 hF hX hS (j + 1) (by omega) (nI_1 j) dX1_walk_90 (fun H locs hX hS => ?_)
    refine lv_iinc (v := (nI (j + 1))) (lv' := [(1, .int (nI (j + 1))), (0, .ref (q 0))]) hx hb dX1_walk_91 hl (k := 1) rfl (nI_1 _) (by decide) rfl (fun ls hl => ?_)
    refine lv_goto (tgt := 16) hx hb dX1_walk_94 (by decide) ?_
    exact ih (j + 1) (va_up (va_up w 1 (upd (w 1) (j + 1) (px (v 0) (v 1) (j + 1)))) 2 (upd ((va_up w 1 (upd (w 1) (j + 1) (px (v 0) (v 1) (j + 1)))) 2) (j + 1) (py (v 0) (v 1) (j + 1)))) ls H locs (by omega) ⟨⟨by omega, wk_up hj.2⟩, hX, hS, by exact lv_sub hl [1, 0] rfl⟩
set_option maxHeartbeats 4000000 in
set_option maxRecDepth 100000 in
theorem mX1_sing (hok : Ok N st v) (by1 : Int32) : Met l yX1_sing (wm yX1_sing cX1_sing 3 none) ({ frames := 2, cells := 0, slots := 0, locals := 43 } : Room) (va_Pc [.ref (q 0), .int by1] (fun U => M0 D cyI cyZ q th (nI N) st md v w U U.heap)) (va_Qv (fun (u : Nat → Nat → Int32) => Sg N by1 v u) (fun u U => (fun (u : Nat → Nat → Int32) => (M0 D cyI cyZ q th (nI N) st md v u : State → Heap → Prop)) u U U.heap) (own 8 q)) 0 0 (own 8 q) := by
  refine mt (by decide) (Nat.le_of_ble_eq_true rfl) ?_
  intro p ev s m below meth c ls hF hr hlocks hnm hX hl
  have hF : CallFix p m c cX1_sing 3 s _ wA RX1 := hF
  obtain ⟨hx, hb, hml, hown, hts⟩ := id hF
  have hX : M0 D cyI cyZ q th (nI N) st md v w s s.heap := hX
  have hl : lv_has ls 3 [(0, .ref (q 0)), (1, .int by1)] := hl
  have hS : va_S (own 8 q) s.heap s.heap [] := va_S.rf
  have hN := hok.1
  refine lv_aload_n hx hb dX1_sing_0 rfl (lv_at hl 0 rfl) ?_
  refine M0.get hF hX 8 (by decide) rfl rfl kf_RX1_26 dX1_sing_1 ?_
  refine lv_iconst (v := 0) hx hb dX1_sing_4 (by decide) ?_
  refine lv_bipush (v := 12) hx hb dX1_sing_5 (by decide) ?_
  refine M0.st_w0 hF hX hS 0 (by omega) rfl dX1_sing_7 (fun H locs hX hS => ?_)
  refine lv_iconst (v := 0) hx hb dX1_sing_8 (by decide) ?_
  refine lv_istore_n (lv' := [(2, .int 0), (0, .ref (q 0)), (1, .int by1)]) hx hb dX1_sing_9 rfl hl (by decide) rfl (fun ls hl => ?_)
  refine lpH2 (σ := Nat) (τ := Nat → Nat → Int32) (fun j w ls H locs => (j ≤ N ∧ ∀ k, k ≤ j → w 0 k = nt (v 0) by1 k) ∧ M0 D cyI cyZ q th (nI N) st md v w s H ∧ va_S (own 8 q) s.heap H locs ∧ lv_has ls 3 [(0, .ref (q 0)), (1, .int by1), (2, .int (nI j))]) (fun j w => N - j) (fun j w ls H locs hI ih => ?_) (0) (va_up w 0 (upd (w 0) 0 12)) ⟨⟨Nat.zero_le _, sg_0⟩, hX, hS, lv_sub hl [1, 2, 0] rfl⟩
  obtain ⟨hj, hX, hS, hl⟩ := hI
  refine lv_iload_n hx hb dX1_sing_10 rfl (lv_at hl 2 rfl) ?_
  refine lv_aload_n hx hb dX1_sing_11 rfl (lv_at hl 0 rfl) ?_
  refine M0.get hF hX 1 (by decide) rfl rfl kf_RX1_38 dX1_sing_12 ?_
  refine lv_icmp_ge (tgt := 79) hx hb dX1_sing_15 (by decide) (fun c15 => ?_) (fun c15 => ?_)
  · have c15n : N ≤ j := (nI_leI (a := N) (b := j) (by omega) (by omega)).mp c15
    obtain rfl : j = N := by omega
    exact W.vret hx hb hr (fun t ht hW => ⟨⟨w, rfl, hj.2, wEnd M0.mv hX ht hW⟩, hS.F ht⟩) hS.2.2 dX1_sing_79
  · have c15n : ¬ N ≤ j := fun h9 => c15 ((nI_leI (a := N) (b := j) (by omega) (by omega)).mpr h9)
    refine lv_aload_n hx hb dX1_sing_18 rfl (lv_at hl 0 rfl) ?_
    refine M0.get hF hX 8 (by decide) rfl rfl kf_RX1_26 dX1_sing_19 ?_
    refine lv_iload_n hx hb dX1_sing_22 rfl (lv_at hl 2 rfl) ?_
    refine lv_iconst (v := 1) hx hb dX1_sing_23 (by decide) ?_
    refine lv_iadd hx hb dX1_sing_24 ?_
    refine lv_aload_n hx hb dX1_sing_25 rfl (lv_at hl 0 rfl) ?_
    refine M0.get hF hX 8 (by decide) rfl rfl kf_RX1_26 dX1_sing_26 ?_
    refine lv_iload_n hx hb dX1_sing_29 rfl (lv_at hl 2 rfl) ?_
    refine aldI hF hX.2.1 hX.1 5 0 rfl rfl j (by omega) (by decide) rfl dX1_sing_30 ?_
    refine lv_aload_n hx hb dX1_sing_31 rfl (lv_at hl 0 rfl) ?_
    refine M0.get hF hX 8 (by decide) rfl rfl kf_RX1_26 dX1_sing_32 ?_
    refine lv_iload_n hx hb dX1_sing_35 rfl (lv_at hl 2 rfl) ?_
    refine aldI hF hX.2.1 hX.1 5 0 rfl rfl j (by omega) (by decide) rfl dX1_sing_36 ?_
    refine lv_iload_n hx hb dX1_sing_37 rfl (lv_at hl 1 rfl) ?_
    refine lv_aload_n hx hb dX1_sing_38 rfl (lv_at hl 0 rfl) ?_
    refine M0.get hF hX 3 (by decide) rfl rfl kf_RX1_13 dX1_sing_39 ?_
    refine lv_iload_n hx hb dX1_sing_42 rfl (lv_at hl 2 rfl) ?_
    refine aldI hF hX.2.1 hX.1 1 0 rfl rfl j (by omega) (by decide) rfl dX1_sing_43 ?_
    refine lv_imul hx hb dX1_sing_44 ?_
    refine cSi (As := [.int (w 0 j), .int (by1 * (v 0 j))]) (rest := [.int (w 0 j), .int ((nI j) + 1), .ref (q 5)]) hF (mX1_folds (w 0 j) (by1 * (v 0 j))) Mv.const trivial jyX1_folds kl_RX1_64 ⟨rfl, rfl⟩ ⟨Nat.le_of_ble_eq_true rfl, Nat.le_of_ble_eq_true rfl⟩ rfl hl.1 rfl (Nat.le_of_ble_eq_true rfl) ⟨Nat.zero_le _, Nat.zero_le _⟩ dX1_sing_45 (fun r hr9 => ?_)
    subst hr9
    refine lv_if_eq (tgt := 63) hx hb dX1_sing_48 (by decide) (fun c48 => ?_) (fun c48 => ?_)
    · have c48b := b2i_f c48
      refine lv_iload_n hx hb dX1_sing_63 rfl (lv_at hl 1 rfl) ?_
      refine lv_aload_n hx hb dX1_sing_64 rfl (lv_at hl 0 rfl) ?_
      refine M0.get hF hX 3 (by decide) rfl rfl kf_RX1_13 dX1_sing_65 ?_
      refine lv_iload_n hx hb dX1_sing_68 rfl (lv_at hl 2 rfl) ?_
      refine aldI hF hX.2.1 hX.1 1 0 rfl rfl j (by omega) (by decide) rfl dX1_sing_69 ?_
      refine lv_imul hx hb dX1_sing_70 ?_
      refine lv_iadd hx hb dX1_sing_71 ?_
      refine topI (show ((w 0 j) + (by1 * (v 0 j))) = nt (v 0) by1 (j + 1) from sing_f (hj.2 j (Nat.le_refl j)) c48b) ?_
      refine M0.st_w0 hF hX hS (j + 1) (by omega) (nI_1 j) dX1_sing_72 (fun H locs hX hS => ?_)
      refine lv_iinc (v := (nI (j + 1))) (lv' := [(2, .int (nI (j + 1))), (0, .ref (q 0)), (1, .int by1)]) hx hb dX1_sing_73 hl (k := 2) rfl (nI_1 _) (by decide) rfl (fun ls hl => ?_)
      refine lv_goto (tgt := 10) hx hb dX1_sing_76 (by decide) ?_
      exact ih (j + 1) (va_up w 0 (upd (w 0) (j + 1) (nt (v 0) by1 (j + 1)))) ls H locs (by omega) ⟨⟨by omega, sg_up hj.2⟩, hX, hS, by exact lv_sub hl [1, 2, 0] rfl⟩
    · have c48b := b2i_t c48
      refine lv_iload_n hx hb dX1_sing_51 rfl (lv_at hl 1 rfl) ?_
      refine lv_ineg hx hb dX1_sing_52 ?_
      refine lv_aload_n hx hb dX1_sing_53 rfl (lv_at hl 0 rfl) ?_
      refine M0.get hF hX 3 (by decide) rfl rfl kf_RX1_13 dX1_sing_54 ?_
      refine lv_iload_n hx hb dX1_sing_57 rfl (lv_at hl 2 rfl) ?_
      refine aldI hF hX.2.1 hX.1 1 0 rfl rfl j (by omega) (by decide) rfl dX1_sing_58 ?_
      refine lv_imul hx hb dX1_sing_59 ?_
      refine lv_goto (tgt := 71) hx hb dX1_sing_60 (by decide) ?_
      refine lv_iadd hx hb dX1_sing_71 ?_
      refine topI (show ((w 0 j) + ((-by1) * (v 0 j))) = nt (v 0) by1 (j + 1) from sing_t (hj.2 j (Nat.le_refl j)) c48b) ?_
      refine M0.st_w0 hF hX hS (j + 1) (by omega) (nI_1 j) dX1_sing_72 (fun H locs hX hS => ?_)
      refine lv_iinc (v := (nI (j + 1))) (lv' := [(2, .int (nI (j + 1))), (0, .ref (q 0)), (1, .int by1)]) hx hb dX1_sing_73 hl (k := 2) rfl (nI_1 _) (by decide) rfl (fun ls hl => ?_)
      refine lv_goto (tgt := 10) hx hb dX1_sing_76 (by decide) ?_
      exact ih (j + 1) (va_up w 0 (upd (w 0) (j + 1) (nt (v 0) by1 (j + 1)))) ls H locs (by omega) ⟨⟨by omega, sg_up hj.2⟩, hX, hS, by exact lv_sub hl [1, 2, 0] rfl⟩
set_option maxHeartbeats 4000000 in
set_option maxRecDepth 100000 in
theorem mX1_home (hok : Ok N st v) : Met l yX1_home (wm yX1_home cX1_home 1 (some .int)) ({ frames := 2, cells := 0, slots := 0, locals := 44 } : Room) (va_Pc [.ref (q 0)] (fun U => (fun U H => M0 D cyI cyZ q th (nI N) st md v w U H ∧ (SM1 t1 (own 8 q)) U H : State → Heap → Prop) U U.heap)) (va_Qi (fun (r : Int32) (u : Nat → Nat → Int32) => r = mx (ab (px (v 0) (v 1) N)) (ab (py (v 0) (v 1) N))) (fun u U => (fun (u : Nat → Nat → Int32) => (M0 D cyI cyZ q th (nI N) st md v u : State → Heap → Prop)) u U U.heap) (own 8 q)) 0 0 (own 8 q) := by
  refine mt (by decide) (Nat.le_of_ble_eq_true rfl) ?_
  intro p ev s m below meth c ls hF hr hlocks hnm hX hl
  have hF : CallFix p m c cX1_home 1 s _ wA RX1 := hF
  obtain ⟨hx, hb, hml, hown, hts⟩ := id hF
  have hZ0 : (SM1 t1 (own 8 q)) s s.heap := hX.2
  have hX : M0 D cyI cyZ q th (nI N) st md v w s s.heap := hX.1
  have hl : lv_has ls 1 [(0, .ref (q 0))] := hl
  have hS : va_S (own 8 q) s.heap s.heap [] := va_S.rf
  have hN := hok.1
  refine lv_aload_n hx hb dX1_home_0 rfl (lv_at hl 0 rfl) ?_
  refine wVv (mc := 0) (ms := 0) (As := []) (rest := []) hF (mX1_walk hok) (Mv.and M0.mv SM1.mv) (fun _ => M0.mv) ⟨hX, SM1.kept hZ0 hS.2.1⟩ (M0.rc hX) jyX1_walk kl_RX1_52 ⟨rfl, rfl⟩ ⟨Nat.le_of_ble_eq_true rfl, Nat.le_of_ble_eq_true rfl⟩ rfl hl.1 rfl (Nat.le_of_ble_eq_true rfl) ⟨Nat.zero_le _, Nat.zero_le _⟩ hS (fun _ _ h => h) (fun _ h => h) dX1_home_1 (fun w1 H locs hp hX hz hk hS => ?_)
  have hwk := hp
  refine lv_aload_n hx hb dX1_home_4 rfl (lv_at hl 0 rfl) ?_
  refine M0.get hF hX 9 (by decide) rfl rfl kf_RX1_29 dX1_home_5 ?_
  refine lv_aload_n hx hb dX1_home_8 rfl (lv_at hl 0 rfl) ?_
  refine M0.get hF hX 1 (by decide) rfl rfl kf_RX1_38 dX1_home_9 ?_
  refine aldI hF hX.2.1 hX.1 6 0 rfl rfl N (by omega) (by decide) rfl dX1_home_12 ?_
  refine topI (show (w1 1 N) = px (v 0) (v 1) N from (hwk N (Nat.le_refl N)).1) ?_
  refine va_mabs hx hb (hml.trans hl.1.symm) hown (hts _ kl_RX1_55) (hts _ ks_LM_abs_name) (hts _ kn_Math) (hts _ kd_LM_abs_name) (Nat.le_of_ble_eq_true rfl) (Nat.le_of_ble_eq_true rfl) (Nat.zero_le _) (Nat.zero_le _) dX1_home_13 ?_
  refine lv_aload_n hx hb dX1_home_16 rfl (lv_at hl 0 rfl) ?_
  refine M0.get hF hX 10 (by decide) rfl rfl kf_RX1_32 dX1_home_17 ?_
  refine lv_aload_n hx hb dX1_home_20 rfl (lv_at hl 0 rfl) ?_
  refine M0.get hF hX 1 (by decide) rfl rfl kf_RX1_38 dX1_home_21 ?_
  refine aldI hF hX.2.1 hX.1 7 0 rfl rfl N (by omega) (by decide) rfl dX1_home_24 ?_
  refine topI (show (w1 2 N) = py (v 0) (v 1) N from (hwk N (Nat.le_refl N)).2) ?_
  refine va_mabs hx hb (hml.trans hl.1.symm) hown (hts _ kl_RX1_55) (hts _ ks_LM_abs_name) (hts _ kn_Math) (hts _ kd_LM_abs_name) (Nat.le_of_ble_eq_true rfl) (Nat.le_of_ble_eq_true rfl) (Nat.zero_le _) (Nat.zero_le _) dX1_home_25 ?_
  refine va_mmax hx hb (hml.trans hl.1.symm) hown (hts _ kl_RX1_60) (hts _ ks_LM_max_name) (hts _ kn_Math) (hts _ kd_LM_max_name) (Nat.le_of_ble_eq_true rfl) (Nat.le_of_ble_eq_true rfl) (Nat.zero_le _) (Nat.zero_le _) dX1_home_28 ?_
  exact W.iret hx hb hr (fun t ht hW => ⟨⟨_, w1, rfl, rfl, wEnd M0.mv hX ht hW⟩, hS.F ht⟩) hS.2.2 dX1_home_31
set_option maxHeartbeats 4000000 in
set_option maxRecDepth 100000 in
theorem mX1_back (hok : Ok N st v) : Met l yX1_back (wm yX1_back cX1_back 5 (some .int)) ({ frames := 2, cells := 0, slots := 0, locals := 44 } : Room) (va_Pc [.ref (q 0)] (fun U => (fun U H => M0 D cyI cyZ q th (nI N) st md v w U H ∧ (SM1 t1 (own 8 q)) U H : State → Heap → Prop) U U.heap)) (va_Qi (fun (r : Int32) (u : Nat → Nat → Int32) => r = rtn v N) (fun u U => (fun (u : Nat → Nat → Int32) => (M0 D cyI cyZ q th (nI N) st md v u : State → Heap → Prop)) u U U.heap) (own 8 q)) 0 0 (own 8 q) := by
  refine mt (by decide) (Nat.le_of_ble_eq_true rfl) ?_
  intro p ev s m below meth c ls hF hr hlocks hnm hX hl
  have hF : CallFix p m c cX1_back 5 s _ wA RX1 := hF
  obtain ⟨hx, hb, hml, hown, hts⟩ := id hF
  have hZ0 : (SM1 t1 (own 8 q)) s s.heap := hX.2
  have hX : M0 D cyI cyZ q th (nI N) st md v w s s.heap := hX.1
  have hl : lv_has ls 5 [(0, .ref (q 0))] := hl
  have hS : va_S (own 8 q) s.heap s.heap [] := va_S.rf
  have hN := hok.1
  refine lv_aload_n hx hb dX1_back_0 rfl (lv_at hl 0 rfl) ?_
  refine wVv (mc := 0) (ms := 0) (As := []) (rest := []) hF (mX1_walk hok) (Mv.and M0.mv SM1.mv) (fun _ => M0.mv) ⟨hX, SM1.kept hZ0 hS.2.1⟩ (M0.rc hX) jyX1_walk kl_RX1_52 ⟨rfl, rfl⟩ ⟨Nat.le_of_ble_eq_true rfl, Nat.le_of_ble_eq_true rfl⟩ rfl hl.1 rfl (Nat.le_of_ble_eq_true rfl) ⟨Nat.zero_le _, Nat.zero_le _⟩ hS (fun _ _ h => h) (fun _ h => h) dX1_back_1 (fun w1 H locs hp hX hz hk hS => ?_)
  have hwk := hp
  refine lv_iconst (v := 0) hx hb dX1_back_4 (by decide) ?_
  refine lv_istore_n (lv' := [(1, .int 0), (0, .ref (q 0))]) hx hb dX1_back_5 rfl hl (by decide) rfl (fun ls hl => ?_)
  refine lv_iconst (v := 1) hx hb dX1_back_6 (by decide) ?_
  refine lv_istore_n (lv' := [(2, .int 1), (1, .int 0), (0, .ref (q 0))]) hx hb dX1_back_7 rfl hl (by decide) rfl (fun ls hl => ?_)
  refine lpW (σ := Nat) (fun j ls => (j ≤ N) ∧ lv_has ls 5 [(0, .ref (q 0)), (1, .int (ctB (rtP v) j)), (2, .int (nI (j + 1)))]) (fun j => N - j) (fun j ls hI ihO => ?_) (0) ⟨by omega, lv_sub hl [2, 1, 0] rfl⟩
  obtain ⟨hjO, hl⟩ := hI
  refine lv_iload_n hx hb dX1_back_8 rfl (lv_at hl 2 rfl) ?_
  refine lv_aload_n hx hb dX1_back_9 rfl (lv_at hl 0 rfl) ?_
  refine M0.get hF hX 1 (by decide) rfl rfl kf_RX1_38 dX1_back_10 ?_
  refine lv_icmp_gt (tgt := 93) hx hb dX1_back_13 (by decide) (fun c13 => ?_) (fun c13 => ?_)
  · have c13n : N < (j + 1) := (nI_ltI (a := N) (b := (j + 1)) (by omega) (by omega)).mp c13
    obtain rfl : j = N := by omega
    refine lv_iload_n hx hb dX1_back_93 rfl (lv_at hl 1 rfl) ?_
    exact W.iret hx hb hr (fun t ht hW => ⟨⟨_, w1, rfl, rfl, wEnd M0.mv hX ht hW⟩, hS.F ht⟩) hS.2.2 dX1_back_94
  · have c13n : ¬ N < (j + 1) := fun h9 => c13 ((nI_ltI (a := N) (b := (j + 1)) (by omega) (by omega)).mpr h9)
    refine lv_iconst (v := 0) hx hb dX1_back_16 (by decide) ?_
    refine lv_istore_n (lv' := [(3, .int 0), (0, .ref (q 0)), (1, .int (ctB (rtP v) j)), (2, .int (nI (j + 1)))]) hx hb dX1_back_17 rfl hl (by decide) rfl (fun ls hl => ?_)
    refine lv_iconst (v := 0) hx hb dX1_back_18 (by decide) ?_
    refine lv_istore (lv' := [(4, .int 0), (3, .int 0), (0, .ref (q 0)), (1, .int (ctB (rtP v) j)), (2, .int (nI (j + 1)))]) hx hb dX1_back_19 hl (by decide) rfl (fun ls hl => ?_)
    refine lpW (σ := Nat) (fun n ls => (n ≤ j + 1) ∧ lv_has ls 5 [(0, .ref (q 0)), (1, .int (ctB (rtP v) j)), (2, .int (nI (j + 1))), (3, .int (b2i (exB (rtE v j) n))), (4, .int (nI n))]) (fun n => j + 1 - n) (fun n ls hI ih => ?_) (0) ⟨by omega, lv_sub hl [2, 3, 4, 1, 0] rfl⟩
    obtain ⟨hj, hl⟩ := hI
    have hn := hj
    refine lv_iload hx hb dX1_back_21 (lv_at hl 4 rfl) ?_
    refine lv_iload_n hx hb dX1_back_23 rfl (lv_at hl 2 rfl) ?_
    refine lv_icmp_ge (tgt := 75) hx hb dX1_back_24 (by decide) (fun c24 => ?_) (fun c24 => ?_)
    · have c24n : (j + 1) ≤ n := (nI_leI (a := (j + 1)) (b := n) (by omega) (by omega)).mp c24
      obtain rfl : n = j + 1 := by omega
      refine lv_iload_n hx hb dX1_back_75 rfl (lv_at hl 1 rfl) ?_
      refine lv_iload_n hx hb dX1_back_76 rfl (lv_at hl 3 rfl) ?_
      refine lv_if_eq (tgt := 84) hx hb dX1_back_77 (by decide) (fun c77 => ?_) (fun c77 => ?_)
      · have c77b := b2i_f c77
        refine lv_iconst (v := 0) hx hb dX1_back_84 (by decide) ?_
        refine lv_iadd hx hb dX1_back_85 ?_
        refine topI (show ((ctB (rtP v) j) + 0) = ctB (rtP v) (j + 1) from ctB_f' c77b) ?_
        refine lv_istore_n (lv' := [(1, .int (ctB (rtP v) (j + 1))), (0, .ref (q 0)), (2, .int (nI (j + 1))), (3, .int (b2i (exB (rtE v j) (j + 1)))), (4, .int (nI (j + 1)))]) hx hb dX1_back_86 rfl hl (by decide) rfl (fun ls hl => ?_)
        refine lv_iinc (v := (nI (j + 1 + 1))) (lv' := [(2, .int (nI (j + 1 + 1))), (1, .int (ctB (rtP v) (j + 1))), (0, .ref (q 0)), (3, .int (b2i (exB (rtE v j) (j + 1)))), (4, .int (nI (j + 1)))]) hx hb dX1_back_87 hl (k := 2) rfl (nI_1 _) (by decide) rfl (fun ls hl => ?_)
        refine lv_goto (tgt := 8) hx hb dX1_back_90 (by decide) ?_
        exact ihO (j + 1) ls (by omega) ⟨by omega, by exact lv_sub hl [2, 1, 0] rfl⟩
      · have c77b := b2i_t c77
        refine lv_iconst (v := 1) hx hb dX1_back_80 (by decide) ?_
        refine lv_goto (tgt := 85) hx hb dX1_back_81 (by decide) ?_
        refine lv_iadd hx hb dX1_back_85 ?_
        refine topI (show ((ctB (rtP v) j) + 1) = ctB (rtP v) (j + 1) from ctB_t' c77b) ?_
        refine lv_istore_n (lv' := [(1, .int (ctB (rtP v) (j + 1))), (0, .ref (q 0)), (2, .int (nI (j + 1))), (3, .int (b2i (exB (rtE v j) (j + 1)))), (4, .int (nI (j + 1)))]) hx hb dX1_back_86 rfl hl (by decide) rfl (fun ls hl => ?_)
        refine lv_iinc (v := (nI (j + 1 + 1))) (lv' := [(2, .int (nI (j + 1 + 1))), (1, .int (ctB (rtP v) (j + 1))), (0, .ref (q 0)), (3, .int (b2i (exB (rtE v j) (j + 1)))), (4, .int (nI (j + 1)))]) hx hb dX1_back_87 hl (k := 2) rfl (nI_1 _) (by decide) rfl (fun ls hl => ?_)
        refine lv_goto (tgt := 8) hx hb dX1_back_90 (by decide) ?_
        exact ihO (j + 1) ls (by omega) ⟨by omega, by exact lv_sub hl [2, 1, 0] rfl⟩
    · have c24n : ¬ (j + 1) ≤ n := fun h9 => c24 ((nI_leI (a := (j + 1)) (b := n) (by omega) (by omega)).mpr h9)
      refine lv_iload_n hx hb dX1_back_27 rfl (lv_at hl 3 rfl) ?_
      refine lv_if_ne (tgt := 63) hx hb dX1_back_28 (by decide) (fun c28 => ?_) (fun c28 => ?_)
      · have c28b := b2i_t c28
        refine lv_iconst (v := 1) hx hb dX1_back_63 (by decide) ?_
        refine lv_goto (tgt := 68) hx hb dX1_back_64 (by decide) ?_
        refine topI (show 1 = b2i (exB (rtE v j) (n + 1)) from b2i_set_o c28b) ?_
        refine lv_istore_n (lv' := [(3, .int (b2i (exB (rtE v j) (n + 1)))), (0, .ref (q 0)), (1, .int (ctB (rtP v) j)), (2, .int (nI (j + 1))), (4, .int (nI n))]) hx hb dX1_back_68 rfl hl (by decide) rfl (fun ls hl => ?_)
        refine lv_iinc (v := (nI (n + 1))) (lv' := [(4, .int (nI (n + 1))), (3, .int (b2i (exB (rtE v j) (n + 1)))), (0, .ref (q 0)), (1, .int (ctB (rtP v) j)), (2, .int (nI (j + 1)))]) hx hb dX1_back_69 hl (k := 4) rfl (nI_1 _) (by decide) rfl (fun ls hl => ?_)
        refine lv_goto (tgt := 21) hx hb dX1_back_72 (by decide) ?_
        exact ih (n + 1) ls (by omega) ⟨by omega, by exact lv_sub hl [2, 3, 4, 1, 0] rfl⟩
      · have c28b := b2i_f c28
        refine lv_aload_n hx hb dX1_back_31 rfl (lv_at hl 0 rfl) ?_
        refine M0.get hF hX 9 (by decide) rfl rfl kf_RX1_29 dX1_back_32 ?_
        refine lv_iload hx hb dX1_back_35 (lv_at hl 4 rfl) ?_
        refine aldI hF hX.2.1 hX.1 6 0 rfl rfl n (by omega) (by decide) rfl dX1_back_37 ?_
        refine lv_aload_n hx hb dX1_back_38 rfl (lv_at hl 0 rfl) ?_
        refine M0.get hF hX 9 (by decide) rfl rfl kf_RX1_29 dX1_back_39 ?_
        refine lv_iload_n hx hb dX1_back_42 rfl (lv_at hl 2 rfl) ?_
        refine aldI hF hX.2.1 hX.1 6 0 rfl rfl (j + 1) (by omega) (by decide) rfl dX1_back_43 ?_
        refine lv_icmp_ne (tgt := 67) hx hb dX1_back_44 (by decide) (fun c44 => ?_) (fun c44 => ?_)
        · refine lv_iconst (v := 0) hx hb dX1_back_67 (by decide) ?_
          refine topI (show 0 = b2i (exB (rtE v j) (n + 1)) from b2i_set_f c28b (rtE_x (hwk n (by omega)).1 (hwk (j + 1) (by omega)).1 c44)) ?_
          refine lv_istore_n (lv' := [(3, .int (b2i (exB (rtE v j) (n + 1)))), (0, .ref (q 0)), (1, .int (ctB (rtP v) j)), (2, .int (nI (j + 1))), (4, .int (nI n))]) hx hb dX1_back_68 rfl hl (by decide) rfl (fun ls hl => ?_)
          refine lv_iinc (v := (nI (n + 1))) (lv' := [(4, .int (nI (n + 1))), (3, .int (b2i (exB (rtE v j) (n + 1)))), (0, .ref (q 0)), (1, .int (ctB (rtP v) j)), (2, .int (nI (j + 1)))]) hx hb dX1_back_69 hl (k := 4) rfl (nI_1 _) (by decide) rfl (fun ls hl => ?_)
          refine lv_goto (tgt := 21) hx hb dX1_back_72 (by decide) ?_
          exact ih (n + 1) ls (by omega) ⟨by omega, by exact lv_sub hl [2, 3, 4, 1, 0] rfl⟩
        · refine lv_aload_n hx hb dX1_back_47 rfl (lv_at hl 0 rfl) ?_
          refine M0.get hF hX 10 (by decide) rfl rfl kf_RX1_32 dX1_back_48 ?_
          refine lv_iload hx hb dX1_back_51 (lv_at hl 4 rfl) ?_
          refine aldI hF hX.2.1 hX.1 7 0 rfl rfl n (by omega) (by decide) rfl dX1_back_53 ?_
          refine lv_aload_n hx hb dX1_back_54 rfl (lv_at hl 0 rfl) ?_
          refine M0.get hF hX 10 (by decide) rfl rfl kf_RX1_32 dX1_back_55 ?_
          refine lv_iload_n hx hb dX1_back_58 rfl (lv_at hl 2 rfl) ?_
          refine aldI hF hX.2.1 hX.1 7 0 rfl rfl (j + 1) (by omega) (by decide) rfl dX1_back_59 ?_
          refine lv_icmp_ne (tgt := 67) hx hb dX1_back_60 (by decide) (fun c60 => ?_) (fun c60 => ?_)
          · refine lv_iconst (v := 0) hx hb dX1_back_67 (by decide) ?_
            refine topI (show 0 = b2i (exB (rtE v j) (n + 1)) from b2i_set_f c28b (rtE_y (hwk n (by omega)).2 (hwk (j + 1) (by omega)).2 c60)) ?_
            refine lv_istore_n (lv' := [(3, .int (b2i (exB (rtE v j) (n + 1)))), (0, .ref (q 0)), (1, .int (ctB (rtP v) j)), (2, .int (nI (j + 1))), (4, .int (nI n))]) hx hb dX1_back_68 rfl hl (by decide) rfl (fun ls hl => ?_)
            refine lv_iinc (v := (nI (n + 1))) (lv' := [(4, .int (nI (n + 1))), (3, .int (b2i (exB (rtE v j) (n + 1)))), (0, .ref (q 0)), (1, .int (ctB (rtP v) j)), (2, .int (nI (j + 1)))]) hx hb dX1_back_69 hl (k := 4) rfl (nI_1 _) (by decide) rfl (fun ls hl => ?_)
            refine lv_goto (tgt := 21) hx hb dX1_back_72 (by decide) ?_
            exact ih (n + 1) ls (by omega) ⟨by omega, by exact lv_sub hl [2, 3, 4, 1, 0] rfl⟩
          · refine lv_iconst (v := 1) hx hb dX1_back_63 (by decide) ?_
            refine lv_goto (tgt := 68) hx hb dX1_back_64 (by decide) ?_
            refine topI (show 1 = b2i (exB (rtE v j) (n + 1)) from b2i_set_t (rtE_t (hwk n (by omega)).1 (hwk n (by omega)).2 (hwk (j + 1) (by omega)).1 (hwk (j + 1) (by omega)).2 c44 c60)) ?_
            refine lv_istore_n (lv' := [(3, .int (b2i (exB (rtE v j) (n + 1)))), (0, .ref (q 0)), (1, .int (ctB (rtP v) j)), (2, .int (nI (j + 1))), (4, .int (nI n))]) hx hb dX1_back_68 rfl hl (by decide) rfl (fun ls hl => ?_)
            refine lv_iinc (v := (nI (n + 1))) (lv' := [(4, .int (nI (n + 1))), (3, .int (b2i (exB (rtE v j) (n + 1)))), (0, .ref (q 0)), (1, .int (ctB (rtP v) j)), (2, .int (nI (j + 1)))]) hx hb dX1_back_69 hl (k := 4) rfl (nI_1 _) (by decide) rfl (fun ls hl => ?_)
            refine lv_goto (tgt := 21) hx hb dX1_back_72 (by decide) ?_
            exact ih (n + 1) ls (by omega) ⟨by omega, by exact lv_sub hl [2, 3, 4, 1, 0] rfl⟩
set_option maxHeartbeats 4000000 in
set_option maxRecDepth 100000 in
theorem mX1_endOf_x (hok : Ok N st v) : Met l yX1_endOf (wm yX1_endOf cX1_endOf 2 (some .int)) ({ frames := 2, cells := 0, slots := 0, locals := 44 } : Room) (va_Pc [.ref (q 0), .ref (q 6)] (fun U => (fun U H => M0 D cyI cyZ q th (nI N) st md v w U H ∧ (SM1 t1 (own 8 q)) U H : State → Heap → Prop) U U.heap)) (va_Qi (fun (r : Int32) (u : Nat → Nat → Int32) => r = px (v 0) (v 1) N) (fun u U => (fun (u : Nat → Nat → Int32) => (M0 D cyI cyZ q th (nI N) st md v u : State → Heap → Prop)) u U U.heap) (own 8 q)) 0 0 (own 8 q) := by
  refine mt (by decide) (Nat.le_of_ble_eq_true rfl) ?_
  intro p ev s m below meth c ls hF hr hlocks hnm hX hl
  have hF : CallFix p m c cX1_endOf 2 s _ wA RX1 := hF
  obtain ⟨hx, hb, hml, hown, hts⟩ := id hF
  have hZ0 : (SM1 t1 (own 8 q)) s s.heap := hX.2
  have hX : M0 D cyI cyZ q th (nI N) st md v w s s.heap := hX.1
  have hl : lv_has ls 2 [(0, .ref (q 0)), (1, .ref (q 6))] := hl
  have hS : va_S (own 8 q) s.heap s.heap [] := va_S.rf
  have hN := hok.1
  refine lv_aload_n hx hb dX1_endOf_0 rfl (lv_at hl 0 rfl) ?_
  refine wVv (mc := 0) (ms := 0) (As := []) (rest := []) hF (mX1_walk hok) (Mv.and M0.mv SM1.mv) (fun _ => M0.mv) ⟨hX, SM1.kept hZ0 hS.2.1⟩ (M0.rc hX) jyX1_walk kl_RX1_52 ⟨rfl, rfl⟩ ⟨Nat.le_of_ble_eq_true rfl, Nat.le_of_ble_eq_true rfl⟩ rfl hl.1 rfl (Nat.le_of_ble_eq_true rfl) ⟨Nat.zero_le _, Nat.zero_le _⟩ hS (fun _ _ h => h) (fun _ h => h) dX1_endOf_1 (fun w1 H locs hp hX hz hk hS => ?_)
  have hwk := hp
  refine lv_aload_n hx hb dX1_endOf_4 rfl (lv_at hl 1 rfl) ?_
  refine lv_aload_n hx hb dX1_endOf_5 rfl (lv_at hl 0 rfl) ?_
  refine M0.get hF hX 1 (by decide) rfl rfl kf_RX1_38 dX1_endOf_6 ?_
  refine aldI hF hX.2.1 hX.1 6 0 rfl rfl N (by omega) (by decide) rfl dX1_endOf_9 ?_
  refine topI (show (w1 1 N) = px (v 0) (v 1) N from (hwk N (Nat.le_refl N)).1) ?_
  exact W.iret hx hb hr (fun t ht hW => ⟨⟨_, w1, rfl, rfl, wEnd M0.mv hX ht hW⟩, hS.F ht⟩) hS.2.2 dX1_endOf_10
set_option maxHeartbeats 4000000 in
set_option maxRecDepth 100000 in
theorem mX1_endOf_y (hok : Ok N st v) : Met l yX1_endOf (wm yX1_endOf cX1_endOf 2 (some .int)) ({ frames := 2, cells := 0, slots := 0, locals := 44 } : Room) (va_Pc [.ref (q 0), .ref (q 7)] (fun U => (fun U H => M0 D cyI cyZ q th (nI N) st md v w U H ∧ (SM1 t1 (own 8 q)) U H : State → Heap → Prop) U U.heap)) (va_Qi (fun (r : Int32) (u : Nat → Nat → Int32) => r = py (v 0) (v 1) N) (fun u U => (fun (u : Nat → Nat → Int32) => (M0 D cyI cyZ q th (nI N) st md v u : State → Heap → Prop)) u U U.heap) (own 8 q)) 0 0 (own 8 q) := by
  refine mt (by decide) (Nat.le_of_ble_eq_true rfl) ?_
  intro p ev s m below meth c ls hF hr hlocks hnm hX hl
  have hF : CallFix p m c cX1_endOf 2 s _ wA RX1 := hF
  obtain ⟨hx, hb, hml, hown, hts⟩ := id hF
  have hZ0 : (SM1 t1 (own 8 q)) s s.heap := hX.2
  have hX : M0 D cyI cyZ q th (nI N) st md v w s s.heap := hX.1
  have hl : lv_has ls 2 [(0, .ref (q 0)), (1, .ref (q 7))] := hl
  have hS : va_S (own 8 q) s.heap s.heap [] := va_S.rf
  have hN := hok.1
  refine lv_aload_n hx hb dX1_endOf_0 rfl (lv_at hl 0 rfl) ?_
  refine wVv (mc := 0) (ms := 0) (As := []) (rest := []) hF (mX1_walk hok) (Mv.and M0.mv SM1.mv) (fun _ => M0.mv) ⟨hX, SM1.kept hZ0 hS.2.1⟩ (M0.rc hX) jyX1_walk kl_RX1_52 ⟨rfl, rfl⟩ ⟨Nat.le_of_ble_eq_true rfl, Nat.le_of_ble_eq_true rfl⟩ rfl hl.1 rfl (Nat.le_of_ble_eq_true rfl) ⟨Nat.zero_le _, Nat.zero_le _⟩ hS (fun _ _ h => h) (fun _ h => h) dX1_endOf_1 (fun w1 H locs hp hX hz hk hS => ?_)
  have hwk := hp
  refine lv_aload_n hx hb dX1_endOf_4 rfl (lv_at hl 1 rfl) ?_
  refine lv_aload_n hx hb dX1_endOf_5 rfl (lv_at hl 0 rfl) ?_
  refine M0.get hF hX 1 (by decide) rfl rfl kf_RX1_38 dX1_endOf_6 ?_
  refine aldI hF hX.2.1 hX.1 7 0 rfl rfl N (by omega) (by decide) rfl dX1_endOf_9 ?_
  refine topI (show (w1 2 N) = py (v 0) (v 1) N from (hwk N (Nat.le_refl N)).2) ?_
  exact W.iret hx hb hr (fun t ht hW => ⟨⟨_, w1, rfl, rfl, wEnd M0.mv hX ht hW⟩, hS.F ht⟩) hS.2.2 dX1_endOf_10
set_option maxHeartbeats 4000000 in
set_option maxRecDepth 100000 in
theorem mX1_isFoldedNow (hok : Ok N st v) (i : Nat) (hi : i < N) : Met l yX1_isFoldedNow (wm yX1_isFoldedNow cX1_isFoldedNow 2 (some .boolean)) ({ frames := 3, cells := 0, slots := 0, locals := 65 } : Room) (va_Pc [.ref (q 0), .int (nI i)] (fun U => M0 D cyI cyZ q th (nI N) st md v w U U.heap)) (va_Qi (fun (r : Int32) (u : Nat → Nat → Int32) => r = b2i (fold1 v st i)) (fun u U => (fun (u : Nat → Nat → Int32) => (M0 D cyI cyZ q th (nI N) st md v u : State → Heap → Prop)) u U U.heap) (own 8 q)) 0 0 (own 8 q) := by
  refine mt (by decide) (Nat.le_of_ble_eq_true rfl) ?_
  intro p ev s m below meth c ls hF hr hlocks hnm hX hl
  have hF : CallFix p m c cX1_isFoldedNow 2 s _ wA RX1 := hF
  obtain ⟨hx, hb, hml, hown, hts⟩ := id hF
  have hX : M0 D cyI cyZ q th (nI N) st md v w s s.heap := hX
  have hl : lv_has ls 2 [(0, .ref (q 0)), (1, .int (nI i))] := hl
  have hS : va_S (own 8 q) s.heap s.heap [] := va_S.rf
  have hN := hok.1
  refine lv_aload_n hx hb dX1_isFoldedNow_0 rfl (lv_at hl 0 rfl) ?_
  refine lv_aload_n hx hb dX1_isFoldedNow_1 rfl (lv_at hl 0 rfl) ?_
  refine M0.get hF hX 2 (by decide) rfl rfl kf_RX1_7 dX1_isFoldedNow_2 ?_
  refine wVv (mc := 0) (ms := 0) (As := [.int st]) (rest := []) hF (mX1_sing hok st) M0.mv (fun _ => M0.mv) hX (M0.rc hX) jyX1_sing kl_RX1_68 ⟨rfl, rfl⟩ ⟨Nat.le_of_ble_eq_true rfl, Nat.le_of_ble_eq_true rfl⟩ rfl hl.1 rfl (Nat.le_of_ble_eq_true rfl) ⟨Nat.zero_le _, Nat.zero_le _⟩ hS (fun _ _ h => h) (fun _ h => h) dX1_isFoldedNow_5 (fun w1 H locs hp hX hz hk hS => ?_)
  have hsg := hp
  refine lv_aload_n hx hb dX1_isFoldedNow_8 rfl (lv_at hl 0 rfl) ?_
  refine M0.get hF hX 8 (by decide) rfl rfl kf_RX1_26 dX1_isFoldedNow_9 ?_
  refine lv_iload_n hx hb dX1_isFoldedNow_12 rfl (lv_at hl 1 rfl) ?_
  refine aldI hF hX.2.1 hX.1 5 0 rfl rfl i (by omega) (by decide) rfl dX1_isFoldedNow_13 ?_
  refine lv_aload_n hx hb dX1_isFoldedNow_14 rfl (lv_at hl 0 rfl) ?_
  refine M0.get hF hX 2 (by decide) rfl rfl kf_RX1_7 dX1_isFoldedNow_15 ?_
  refine lv_aload_n hx hb dX1_isFoldedNow_18 rfl (lv_at hl 0 rfl) ?_
  refine M0.get hF hX 3 (by decide) rfl rfl kf_RX1_13 dX1_isFoldedNow_19 ?_
  refine lv_iload_n hx hb dX1_isFoldedNow_22 rfl (lv_at hl 1 rfl) ?_
  refine aldI hF hX.2.1 hX.1 1 0 rfl rfl i (by omega) (by decide) rfl dX1_isFoldedNow_23 ?_
  refine lv_imul hx hb dX1_isFoldedNow_24 ?_
  refine cSi (As := [.int (w1 0 i), .int (st * (v 0 i))]) (rest := []) hF (mX1_folds (w1 0 i) (st * (v 0 i))) Mv.const trivial jyX1_folds kl_RX1_64 ⟨rfl, rfl⟩ ⟨Nat.le_of_ble_eq_true rfl, Nat.le_of_ble_eq_true rfl⟩ rfl hl.1 rfl (Nat.le_of_ble_eq_true rfl) ⟨Nat.zero_le _, Nat.zero_le _⟩ dX1_isFoldedNow_25 (fun r hr9 => ?_)
  subst hr9
  refine topI (show (b2i (lv9 ((w1 0 i) + (st * (v 0 i))))) = b2i (fold1 v st i) from fold_c (hsg i (by omega))) ?_
  exact W.zret hx hb hr b2i_nar (fun t ht hW => ⟨⟨_, w1, rfl, rfl, wEnd M0.mv hX ht hW⟩, hS.F ht⟩) hS.2.2 dX1_isFoldedNow_28
set_option maxHeartbeats 4000000 in
set_option maxRecDepth 100000 in
theorem mX1_noteNow (hok : Ok N st v) (i : Nat) (hi : i < N) : Met l yX1_noteNow (wm yX1_noteNow cX1_noteNow 2 (some .int)) ({ frames := 3, cells := 0, slots := 0, locals := 65 } : Room) (va_Pc [.ref (q 0), .int (nI i)] (fun U => M0 D cyI cyZ q th (nI N) st md v w U U.heap)) (va_Qi (fun (r : Int32) (u : Nat → Nat → Int32) => r = nt (v 0) st (i + 1)) (fun u U => (fun (u : Nat → Nat → Int32) => (M0 D cyI cyZ q th (nI N) st md v u : State → Heap → Prop)) u U U.heap) (own 8 q)) 0 0 (own 8 q) := by
  refine mt (by decide) (Nat.le_of_ble_eq_true rfl) ?_
  intro p ev s m below meth c ls hF hr hlocks hnm hX hl
  have hF : CallFix p m c cX1_noteNow 2 s _ wA RX1 := hF
  obtain ⟨hx, hb, hml, hown, hts⟩ := id hF
  have hX : M0 D cyI cyZ q th (nI N) st md v w s s.heap := hX
  have hl : lv_has ls 2 [(0, .ref (q 0)), (1, .int (nI i))] := hl
  have hS : va_S (own 8 q) s.heap s.heap [] := va_S.rf
  have hN := hok.1
  refine lv_aload_n hx hb dX1_noteNow_0 rfl (lv_at hl 0 rfl) ?_
  refine lv_aload_n hx hb dX1_noteNow_1 rfl (lv_at hl 0 rfl) ?_
  refine M0.get hF hX 2 (by decide) rfl rfl kf_RX1_7 dX1_noteNow_2 ?_
  refine wVv (mc := 0) (ms := 0) (As := [.int st]) (rest := []) hF (mX1_sing hok st) M0.mv (fun _ => M0.mv) hX (M0.rc hX) jyX1_sing kl_RX1_68 ⟨rfl, rfl⟩ ⟨Nat.le_of_ble_eq_true rfl, Nat.le_of_ble_eq_true rfl⟩ rfl hl.1 rfl (Nat.le_of_ble_eq_true rfl) ⟨Nat.zero_le _, Nat.zero_le _⟩ hS (fun _ _ h => h) (fun _ h => h) dX1_noteNow_5 (fun w1 H locs hp hX hz hk hS => ?_)
  have hsg := hp
  refine lv_aload_n hx hb dX1_noteNow_8 rfl (lv_at hl 0 rfl) ?_
  refine M0.get hF hX 8 (by decide) rfl rfl kf_RX1_26 dX1_noteNow_9 ?_
  refine lv_iload_n hx hb dX1_noteNow_12 rfl (lv_at hl 1 rfl) ?_
  refine lv_iconst (v := 1) hx hb dX1_noteNow_13 (by decide) ?_
  refine lv_iadd hx hb dX1_noteNow_14 ?_
  refine aldI hF hX.2.1 hX.1 5 0 rfl rfl (i + 1) (by omega) (by decide) (nI_1 i) dX1_noteNow_15 ?_
  exact W.iret hx hb hr (fun t ht hW => ⟨⟨_, w1, rfl, hsg (i + 1) (by omega), wEnd M0.mv hX ht hW⟩, hS.F ht⟩) hS.2.2 dX1_noteNow_16
set_option maxHeartbeats 4000000 in
set_option maxRecDepth 100000 in
theorem mX1_foldedNow (hok : Ok N st v) : Met l yX1_foldedNow (wm yX1_foldedNow cX1_foldedNow 3 (some .int)) ({ frames := 4, cells := 0, slots := 0, locals := 86 } : Room) (va_Pc [.ref (q 0)] (fun U => M0 D cyI cyZ q th (nI N) st md v w U U.heap)) (va_Qi (fun (r : Int32) (u : Nat → Nat → Int32) => r = ctB (fold1 v st) N) (fun u U => (fun (u : Nat → Nat → Int32) => (M0 D cyI cyZ q th (nI N) st md v u : State → Heap → Prop)) u U U.heap) (own 8 q)) 0 0 (own 8 q) := by
  refine mt (by decide) (Nat.le_of_ble_eq_true rfl) ?_
  intro p ev s m below meth c ls hF hr hlocks hnm hX hl
  have hF : CallFix p m c cX1_foldedNow 3 s _ wA RX1 := hF
  obtain ⟨hx, hb, hml, hown, hts⟩ := id hF
  have hX : M0 D cyI cyZ q th (nI N) st md v w s s.heap := hX
  have hl : lv_has ls 3 [(0, .ref (q 0))] := hl
  have hS : va_S (own 8 q) s.heap s.heap [] := va_S.rf
  have hN := hok.1
  refine lv_iconst (v := 0) hx hb dX1_foldedNow_0 (by decide) ?_
  refine lv_istore_n (lv' := [(1, .int 0), (0, .ref (q 0))]) hx hb dX1_foldedNow_1 rfl hl (by decide) rfl (fun ls hl => ?_)
  refine lv_iconst (v := 0) hx hb dX1_foldedNow_2 (by decide) ?_
  refine lv_istore_n (lv' := [(2, .int 0), (1, .int 0), (0, .ref (q 0))]) hx hb dX1_foldedNow_3 rfl hl (by decide) rfl (fun ls hl => ?_)
  refine lpH2 (σ := Nat) (τ := Nat → Nat → Int32) (fun j w ls H locs => (j ≤ N) ∧ M0 D cyI cyZ q th (nI N) st md v w s H ∧ va_S (own 8 q) s.heap H locs ∧ lv_has ls 3 [(0, .ref (q 0)), (1, .int (ctB (fold1 v st) j)), (2, .int (nI j))]) (fun j w => N - j) (fun j w ls H locs hI ih => ?_) (0) w ⟨Nat.zero_le _, hX, hS, lv_sub hl [2, 1, 0] rfl⟩
  obtain ⟨hj, hX, hS, hl⟩ := hI
  refine lv_iload_n hx hb dX1_foldedNow_4 rfl (lv_at hl 2 rfl) ?_
  refine lv_aload_n hx hb dX1_foldedNow_5 rfl (lv_at hl 0 rfl) ?_
  refine M0.get hF hX 1 (by decide) rfl rfl kf_RX1_38 dX1_foldedNow_6 ?_
  refine lv_icmp_ge (tgt := 34) hx hb dX1_foldedNow_9 (by decide) (fun c9 => ?_) (fun c9 => ?_)
  · have c9n : N ≤ j := (nI_leI (a := N) (b := j) (by omega) (by omega)).mp c9
    obtain rfl : j = N := by omega
    refine lv_iload_n hx hb dX1_foldedNow_34 rfl (lv_at hl 1 rfl) ?_
    exact W.iret hx hb hr (fun t ht hW => ⟨⟨_, w, rfl, rfl, wEnd M0.mv hX ht hW⟩, hS.F ht⟩) hS.2.2 dX1_foldedNow_35
  · have c9n : ¬ N ≤ j := fun h9 => c9 ((nI_leI (a := N) (b := j) (by omega) (by omega)).mpr h9)
    refine lv_iload_n hx hb dX1_foldedNow_12 rfl (lv_at hl 1 rfl) ?_
    refine lv_aload_n hx hb dX1_foldedNow_13 rfl (lv_at hl 0 rfl) ?_
    refine lv_iload_n hx hb dX1_foldedNow_14 rfl (lv_at hl 2 rfl) ?_
    refine wVi (mc := 0) (ms := 0) (As := [.int (nI j)]) (rest := [.int (ctB (fold1 v st) j)]) hF (mX1_isFoldedNow hok j (by omega)) M0.mv (fun _ => M0.mv) hX (M0.rc hX) jyX1_isFoldedNow kl_RX1_72 ⟨rfl, rfl⟩ ⟨Nat.le_of_ble_eq_true rfl, Nat.le_of_ble_eq_true rfl⟩ rfl hl.1 rfl (Nat.le_of_ble_eq_true rfl) ⟨Nat.zero_le _, Nat.zero_le _⟩ hS (fun _ _ h => h) (fun _ h => h) dX1_foldedNow_15 (fun r9 w1 H locs hp hX hz hk hS => ?_)
    have hr9 := hp
    subst hr9
    refine lv_if_eq (tgt := 25) hx hb dX1_foldedNow_18 (by decide) (fun c18 => ?_) (fun c18 => ?_)
    · have c18b := b2i_f c18
      refine lv_iconst (v := 0) hx hb dX1_foldedNow_25 (by decide) ?_
      refine lv_iadd hx hb dX1_foldedNow_26 ?_
      refine topI (show ((ctB (fold1 v st) j) + 0) = ctB (fold1 v st) (j + 1) from ctB_f' c18b) ?_
      refine lv_istore_n (lv' := [(1, .int (ctB (fold1 v st) (j + 1))), (0, .ref (q 0)), (2, .int (nI j))]) hx hb dX1_foldedNow_27 rfl hl (by decide) rfl (fun ls hl => ?_)
      refine lv_iinc (v := (nI (j + 1))) (lv' := [(2, .int (nI (j + 1))), (1, .int (ctB (fold1 v st) (j + 1))), (0, .ref (q 0))]) hx hb dX1_foldedNow_28 hl (k := 2) rfl (nI_1 _) (by decide) rfl (fun ls hl => ?_)
      refine lv_goto (tgt := 4) hx hb dX1_foldedNow_31 (by decide) ?_
      exact ih (j + 1) w1 ls H locs (by omega) ⟨by omega, hX, hS, by exact lv_sub hl [2, 1, 0] rfl⟩
    · have c18b := b2i_t c18
      refine lv_iconst (v := 1) hx hb dX1_foldedNow_21 (by decide) ?_
      refine lv_goto (tgt := 26) hx hb dX1_foldedNow_22 (by decide) ?_
      refine lv_iadd hx hb dX1_foldedNow_26 ?_
      refine topI (show ((ctB (fold1 v st) j) + 1) = ctB (fold1 v st) (j + 1) from ctB_t' c18b) ?_
      refine lv_istore_n (lv' := [(1, .int (ctB (fold1 v st) (j + 1))), (0, .ref (q 0)), (2, .int (nI j))]) hx hb dX1_foldedNow_27 rfl hl (by decide) rfl (fun ls hl => ?_)
      refine lv_iinc (v := (nI (j + 1))) (lv' := [(2, .int (nI (j + 1))), (1, .int (ctB (fold1 v st) (j + 1))), (0, .ref (q 0))]) hx hb dX1_foldedNow_28 hl (k := 2) rfl (nI_1 _) (by decide) rfl (fun ls hl => ?_)
      refine lv_goto (tgt := 4) hx hb dX1_foldedNow_31 (by decide) ?_
      exact ih (j + 1) w1 ls H locs (by omega) ⟨by omega, hX, hS, by exact lv_sub hl [2, 1, 0] rfl⟩
end P20
end
section
section P21
variable {l : Launch} {D : va_G} {cyI cyZ : ClassId} {q : Nat → Nat} {N K : Nat} {n st th md : Int32} {v w : Nat → Nat → Int32} {mk : Nat → Bool}
variable {t1 : Nat}
set_option maxHeartbeats 4000000 in
set_option maxRecDepth 100000 in
theorem mX1_isTwofold (hok : Ok N st v) (by1 : Int32) (hsg : Sg N by1 v w) (i : Nat) (hi : i < N) : Met l yX1_isTwofold (wm yX1_isTwofold cX1_isTwofold 3 (some .boolean)) ({ frames := 2, cells := 0, slots := 0, locals := 43 } : Room) (va_Pc [.ref (q 0), .int (nI i), .int by1] (fun U => M0 D cyI cyZ q th (nI N) st md v w U U.heap)) (vp_Si (fun r => r = b2i (tw (nt (v 0) by1 i) (v 0 i) by1))) 0 0 (fun _ => False) := by
  refine mt (by decide) (Nat.le_of_ble_eq_true rfl) ?_
  intro p ev s m below meth c ls hF hr hlocks hnm hX hl
  have hF : CallFix p m c cX1_isTwofold 3 s _ wA RX1 := hF
  obtain ⟨hx, hb, hml, hown, hts⟩ := id hF
  have hX : M0 D cyI cyZ q th (nI N) st md v w s s.heap := hX
  have hl : lv_has ls 3 [(0, .ref (q 0)), (1, .int (nI i)), (2, .int by1)] := hl
  have hN := hok.1
  refine lv_aload_n hx hb dX1_isTwofold_0 rfl (lv_at hl 0 rfl) ?_
  refine M0.get hF hX 3 (by decide) rfl rfl kf_RX1_13 dX1_isTwofold_1 ?_
  refine lv_iload_n hx hb dX1_isTwofold_4 rfl (lv_at hl 1 rfl) ?_
  refine aldI hF hX.2.1 hX.1 1 0 rfl rfl i (by omega) (by decide) rfl dX1_isTwofold_5 ?_
  refine lv_if_eq (tgt := 54) hx hb dX1_isTwofold_6 (by decide) (fun c6 => ?_) (fun c6 => ?_)
  · refine lv_iconst (v := 0) hx hb dX1_isTwofold_54 (by decide) ?_
    exact W.zret hx hb hr rfl (fun t ht hW => ⟨_, rfl, b2i_0 (tw_0 c6), ht⟩) (fun q hq => absurd hq List.not_mem_nil) dX1_isTwofold_55
  · refine lv_aload_n hx hb dX1_isTwofold_9 rfl (lv_at hl 0 rfl) ?_
    refine M0.get hF hX 8 (by decide) rfl rfl kf_RX1_26 dX1_isTwofold_10 ?_
    refine lv_iload_n hx hb dX1_isTwofold_13 rfl (lv_at hl 1 rfl) ?_
    refine aldI hF hX.2.1 hX.1 5 0 rfl rfl i (by omega) (by decide) rfl dX1_isTwofold_14 ?_
    refine lv_iload_n hx hb dX1_isTwofold_15 rfl (lv_at hl 2 rfl) ?_
    refine lv_aload_n hx hb dX1_isTwofold_16 rfl (lv_at hl 0 rfl) ?_
    refine M0.get hF hX 3 (by decide) rfl rfl kf_RX1_13 dX1_isTwofold_17 ?_
    refine lv_iload_n hx hb dX1_isTwofold_20 rfl (lv_at hl 1 rfl) ?_
    refine aldI hF hX.2.1 hX.1 1 0 rfl rfl i (by omega) (by decide) rfl dX1_isTwofold_21 ?_
    refine lv_imul hx hb dX1_isTwofold_22 ?_
    refine cSi (As := [.int (w 0 i), .int (by1 * (v 0 i))]) (rest := []) hF (mX1_folds (w 0 i) (by1 * (v 0 i))) Mv.const trivial jyX1_folds kl_RX1_64 ⟨rfl, rfl⟩ ⟨Nat.le_of_ble_eq_true rfl, Nat.le_of_ble_eq_true rfl⟩ rfl hl.1 rfl (Nat.le_of_ble_eq_true rfl) ⟨Nat.zero_le _, Nat.zero_le _⟩ dX1_isTwofold_23 (fun r hr9 => ?_)
    subst hr9
    refine lv_if_ne (tgt := 50) hx hb dX1_isTwofold_26 (by decide) (fun c26 => ?_) (fun c26 => ?_)
    · have c26b := b2i_t c26
      refine lv_iconst (v := 1) hx hb dX1_isTwofold_50 (by decide) ?_
      refine lv_goto (tgt := 55) hx hb dX1_isTwofold_51 (by decide) ?_
      exact W.zret hx hb hr rfl (fun t ht hW => ⟨_, rfl, b2i_1 (tw_1 c6 (by rw [← hsg i (by omega)]; exact c26b)), ht⟩) (fun q hq => absurd hq List.not_mem_nil) dX1_isTwofold_55
    · have c26b := b2i_f c26
      refine lv_aload_n hx hb dX1_isTwofold_29 rfl (lv_at hl 0 rfl) ?_
      refine M0.get hF hX 8 (by decide) rfl rfl kf_RX1_26 dX1_isTwofold_30 ?_
      refine lv_iload_n hx hb dX1_isTwofold_33 rfl (lv_at hl 1 rfl) ?_
      refine aldI hF hX.2.1 hX.1 5 0 rfl rfl i (by omega) (by decide) rfl dX1_isTwofold_34 ?_
      refine lv_iload_n hx hb dX1_isTwofold_35 rfl (lv_at hl 2 rfl) ?_
      refine lv_ineg hx hb dX1_isTwofold_36 ?_
      refine lv_aload_n hx hb dX1_isTwofold_37 rfl (lv_at hl 0 rfl) ?_
      refine M0.get hF hX 3 (by decide) rfl rfl kf_RX1_13 dX1_isTwofold_38 ?_
      refine lv_iload_n hx hb dX1_isTwofold_41 rfl (lv_at hl 1 rfl) ?_
      refine aldI hF hX.2.1 hX.1 1 0 rfl rfl i (by omega) (by decide) rfl dX1_isTwofold_42 ?_
      refine lv_imul hx hb dX1_isTwofold_43 ?_
      refine cSi (As := [.int (w 0 i), .int ((-by1) * (v 0 i))]) (rest := []) hF (mX1_folds (w 0 i) ((-by1) * (v 0 i))) Mv.const trivial jyX1_folds kl_RX1_64 ⟨rfl, rfl⟩ ⟨Nat.le_of_ble_eq_true rfl, Nat.le_of_ble_eq_true rfl⟩ rfl hl.1 rfl (Nat.le_of_ble_eq_true rfl) ⟨Nat.zero_le _, Nat.zero_le _⟩ dX1_isTwofold_44 (fun r hr9 => ?_)
      subst hr9
      refine lv_if_eq (tgt := 54) hx hb dX1_isTwofold_47 (by decide) (fun c47 => ?_) (fun c47 => ?_)
      · have c47b := b2i_f c47
        refine lv_iconst (v := 0) hx hb dX1_isTwofold_54 (by decide) ?_
        exact W.zret hx hb hr rfl (fun t ht hW => ⟨_, rfl, b2i_0 (tw_3 (by rw [← hsg i (by omega)]; exact c26b) (by rw [← hsg i (by omega)]; exact c47b)), ht⟩) (fun q hq => absurd hq List.not_mem_nil) dX1_isTwofold_55
      · have c47b := b2i_t c47
        refine lv_iconst (v := 1) hx hb dX1_isTwofold_50 (by decide) ?_
        refine lv_goto (tgt := 55) hx hb dX1_isTwofold_51 (by decide) ?_
        exact W.zret hx hb hr rfl (fun t ht hW => ⟨_, rfl, b2i_1 (tw_2 c6 (by rw [← hsg i (by omega)]; exact c47b)), ht⟩) (fun q hq => absurd hq List.not_mem_nil) dX1_isTwofold_55
set_option maxHeartbeats 4000000 in
set_option maxRecDepth 100000 in
theorem mX1_alike (a : Nat) (ha : a < 10) : Met l yX1_alike (wm yX1_alike cX1_alike 4 (some .int)) ({ frames := 0, cells := 0, slots := 0, locals := 0 } : Room) (va_Pc [.ref (q 0), .int (nI a)] (fun U => M0 D cyI cyZ q th (nI N) st md v w U U.heap)) (vp_Si (fun r => r = lc (v 3) (v 3 a) 10)) 0 0 (fun _ => False) := by
  refine mt (by decide) (Nat.le_of_ble_eq_true rfl) ?_
  intro p ev s m below meth c ls hF hr hlocks hnm hX hl
  have hF : CallFix p m c cX1_alike 4 s _ wA RX1 := hF
  obtain ⟨hx, hb, hml, hown, hts⟩ := id hF
  have hX : M0 D cyI cyZ q th (nI N) st md v w s s.heap := hX
  have hl : lv_has ls 4 [(0, .ref (q 0)), (1, .int (nI a))] := hl
  refine lv_iconst (v := 0) hx hb dX1_alike_0 (by decide) ?_
  refine lv_istore_n (lv' := [(2, .int 0), (0, .ref (q 0)), (1, .int (nI a))]) hx hb dX1_alike_1 rfl hl (by decide) rfl (fun ls hl => ?_)
  refine lv_iconst (v := 0) hx hb dX1_alike_2 (by decide) ?_
  refine lv_istore_n (lv' := [(3, .int 0), (2, .int 0), (0, .ref (q 0)), (1, .int (nI a))]) hx hb dX1_alike_3 rfl hl (by decide) rfl (fun ls hl => ?_)
  refine lpW (σ := Nat) (fun j ls => (j ≤ 10) ∧ lv_has ls 4 [(0, .ref (q 0)), (1, .int (nI a)), (2, .int (lc (v 3) (v 3 a) j)), (3, .int (nI j))]) (fun j => 10 - j) (fun j ls hI ih => ?_) (0) ⟨by omega, lv_sub hl [2, 3, 1, 0] rfl⟩
  obtain ⟨hj, hl⟩ := hI
  refine lv_iload_n hx hb dX1_alike_4 rfl (lv_at hl 3 rfl) ?_
  refine lv_bipush (v := 10) hx hb dX1_alike_5 (by decide) ?_
  refine lv_icmp_ge (tgt := 39) hx hb dX1_alike_7 (by decide) (fun c7 => ?_) (fun c7 => ?_)
  · have c7n : 10 ≤ j := (nI_leI (a := 10) (b := j) (by omega) (by omega)).mp c7
    obtain rfl : j = 10 := by omega
    refine lv_iload_n hx hb dX1_alike_39 rfl (lv_at hl 2 rfl) ?_
    exact W.iret hx hb hr (fun t ht hW => ⟨_, rfl, rfl, ht⟩) (fun q hq => absurd hq List.not_mem_nil) dX1_alike_40
  · have c7n : ¬ 10 ≤ j := fun h9 => c7 ((nI_leI (a := 10) (b := j) (by omega) (by omega)).mpr h9)
    refine lv_iload_n hx hb dX1_alike_10 rfl (lv_at hl 2 rfl) ?_
    refine lv_aload_n hx hb dX1_alike_11 rfl (lv_at hl 0 rfl) ?_
    refine M0.get hF hX 6 (by decide) rfl rfl kf_RX1_23 dX1_alike_12 ?_
    refine lv_iload_n hx hb dX1_alike_15 rfl (lv_at hl 3 rfl) ?_
    refine aldI hF hX.2.1 hX.1 4 0 rfl rfl j (by omega) (by decide) rfl dX1_alike_16 ?_
    refine lv_aload_n hx hb dX1_alike_17 rfl (lv_at hl 0 rfl) ?_
    refine M0.get hF hX 6 (by decide) rfl rfl kf_RX1_23 dX1_alike_18 ?_
    refine lv_iload_n hx hb dX1_alike_21 rfl (lv_at hl 1 rfl) ?_
    refine aldI hF hX.2.1 hX.1 4 0 rfl rfl a (by omega) (by decide) rfl dX1_alike_22 ?_
    refine lv_icmp_ne (tgt := 30) hx hb dX1_alike_23 (by decide) (fun c23 => ?_) (fun c23 => ?_)
    · refine lv_iconst (v := 0) hx hb dX1_alike_30 (by decide) ?_
      refine lv_iadd hx hb dX1_alike_31 ?_
      refine topI (show ((lc (v 3) (v 3 a) j) + 0) = lc (v 3) (v 3 a) (j + 1) from lc_f' c23 rfl) ?_
      refine lv_istore_n (lv' := [(2, .int (lc (v 3) (v 3 a) (j + 1))), (0, .ref (q 0)), (1, .int (nI a)), (3, .int (nI j))]) hx hb dX1_alike_32 rfl hl (by decide) rfl (fun ls hl => ?_)
      refine lv_iinc (v := (nI (j + 1))) (lv' := [(3, .int (nI (j + 1))), (2, .int (lc (v 3) (v 3 a) (j + 1))), (0, .ref (q 0)), (1, .int (nI a))]) hx hb dX1_alike_33 hl (k := 3) rfl (nI_1 _) (by decide) rfl (fun ls hl => ?_)
      refine lv_goto (tgt := 4) hx hb dX1_alike_36 (by decide) ?_
      exact ih (j + 1) ls (by omega) ⟨by omega, by exact lv_sub hl [2, 3, 1, 0] rfl⟩
    · refine lv_iconst (v := 1) hx hb dX1_alike_26 (by decide) ?_
      refine lv_goto (tgt := 31) hx hb dX1_alike_27 (by decide) ?_
      refine lv_iadd hx hb dX1_alike_31 ?_
      refine topI (show ((lc (v 3) (v 3 a) j) + 1) = lc (v 3) (v 3 a) (j + 1) from lc_t' c23 rfl) ?_
      refine lv_istore_n (lv' := [(2, .int (lc (v 3) (v 3 a) (j + 1))), (0, .ref (q 0)), (1, .int (nI a)), (3, .int (nI j))]) hx hb dX1_alike_32 rfl hl (by decide) rfl (fun ls hl => ?_)
      refine lv_iinc (v := (nI (j + 1))) (lv' := [(3, .int (nI (j + 1))), (2, .int (lc (v 3) (v 3 a) (j + 1))), (0, .ref (q 0)), (1, .int (nI a))]) hx hb dX1_alike_33 hl (k := 3) rfl (nI_1 _) (by decide) rfl (fun ls hl => ?_)
      refine lv_goto (tgt := 4) hx hb dX1_alike_36 (by decide) ?_
      exact ih (j + 1) ls (by omega) ⟨by omega, by exact lv_sub hl [2, 3, 1, 0] rfl⟩
set_option maxHeartbeats 4000000 in
set_option maxRecDepth 100000 in
theorem mX1_many (hok : Ok N st v) (by1 : Int32) (hsg : Sg N by1 v w) (i : Nat) (hi : i < N) : Met l yX1_many (wm yX1_many cX1_many 3 (some .int)) ({ frames := 3, cells := 0, slots := 0, locals := 65 } : Room) (va_Pc [.ref (q 0), .int (nI i), .int by1] (fun U => M0 D cyI cyZ q th (nI N) st md v w U U.heap)) (vp_Si (fun r => r = mny v by1 i)) 0 0 (fun _ => False) := by
  refine mt (by decide) (Nat.le_of_ble_eq_true rfl) ?_
  intro p ev s m below meth c ls hF hr hlocks hnm hX hl
  have hF : CallFix p m c cX1_many 3 s _ wA RX1 := hF
  obtain ⟨hx, hb, hml, hown, hts⟩ := id hF
  have hX : M0 D cyI cyZ q th (nI N) st md v w s s.heap := hX
  have hl : lv_has ls 3 [(0, .ref (q 0)), (1, .int (nI i)), (2, .int by1)] := hl
  have hN := hok.1
  refine lv_aload_n hx hb dX1_many_0 rfl (lv_at hl 0 rfl) ?_
  refine lv_iload_n hx hb dX1_many_1 rfl (lv_at hl 1 rfl) ?_
  refine lv_iload_n hx hb dX1_many_2 rfl (lv_at hl 2 rfl) ?_
  refine cVi (As := [.int (nI i), .int by1]) (rest := []) hF (mX1_isTwofold hok by1 hsg i (by omega)) M0.mv hX (M0.rc hX) jyX1_isTwofold kl_RX1_76 ⟨rfl, rfl⟩ ⟨Nat.le_of_ble_eq_true rfl, Nat.le_of_ble_eq_true rfl⟩ rfl hl.1 rfl (Nat.le_of_ble_eq_true rfl) ⟨Nat.zero_le _, Nat.zero_le _⟩ dX1_many_3 (fun r hr9 => ?_)
  subst hr9
  refine lv_if_eq (tgt := 13) hx hb dX1_many_6 (by decide) (fun c6 => ?_) (fun c6 => ?_)
  · have c6b := b2i_f c6
    refine lv_iconst (v := 1) hx hb dX1_many_13 (by decide) ?_
    refine lv_aload_n hx hb dX1_many_14 rfl (lv_at hl 0 rfl) ?_
    refine lv_aload_n hx hb dX1_many_15 rfl (lv_at hl 0 rfl) ?_
    refine M0.get hF hX 5 (by decide) rfl rfl kf_RX1_20 dX1_many_16 ?_
    refine lv_iload_n hx hb dX1_many_19 rfl (lv_at hl 1 rfl) ?_
    refine aldI hF hX.2.1 hX.1 3 0 rfl rfl i (by omega) (by decide) rfl dX1_many_20 ?_
    refine topI (show (v 2 i) = nI (ix (v 2 i)) from okM hok i) ?_
    refine cVi (As := [.int (nI (ix (v 2 i)))]) (rest := [.int 1]) hF (mX1_alike (ix (v 2 i)) (okM10 hok i)) M0.mv hX (M0.rc hX) jyX1_alike kl_RX1_79 ⟨rfl, rfl⟩ ⟨Nat.le_of_ble_eq_true rfl, Nat.le_of_ble_eq_true rfl⟩ rfl hl.1 rfl (Nat.le_of_ble_eq_true rfl) ⟨Nat.zero_le _, Nat.zero_le _⟩ dX1_many_21 (fun r hr9 => ?_)
    subst hr9
    refine lv_imul hx hb dX1_many_24 ?_
    exact W.iret hx hb hr (fun t ht hW => ⟨_, rfl, mny_f c6b, ht⟩) (fun q hq => absurd hq List.not_mem_nil) dX1_many_25
  · have c6b := b2i_t c6
    refine lv_iconst (v := 2) hx hb dX1_many_9 (by decide) ?_
    refine lv_goto (tgt := 14) hx hb dX1_many_10 (by decide) ?_
    refine lv_aload_n hx hb dX1_many_14 rfl (lv_at hl 0 rfl) ?_
    refine lv_aload_n hx hb dX1_many_15 rfl (lv_at hl 0 rfl) ?_
    refine M0.get hF hX 5 (by decide) rfl rfl kf_RX1_20 dX1_many_16 ?_
    refine lv_iload_n hx hb dX1_many_19 rfl (lv_at hl 1 rfl) ?_
    refine aldI hF hX.2.1 hX.1 3 0 rfl rfl i (by omega) (by decide) rfl dX1_many_20 ?_
    refine topI (show (v 2 i) = nI (ix (v 2 i)) from okM hok i) ?_
    refine cVi (As := [.int (nI (ix (v 2 i)))]) (rest := [.int 2]) hF (mX1_alike (ix (v 2 i)) (okM10 hok i)) M0.mv hX (M0.rc hX) jyX1_alike kl_RX1_79 ⟨rfl, rfl⟩ ⟨Nat.le_of_ble_eq_true rfl, Nat.le_of_ble_eq_true rfl⟩ rfl hl.1 rfl (Nat.le_of_ble_eq_true rfl) ⟨Nat.zero_le _, Nat.zero_le _⟩ dX1_many_21 (fun r hr9 => ?_)
    subst hr9
    refine lv_imul hx hb dX1_many_24 ?_
    exact W.iret hx hb hr (fun t ht hW => ⟨_, rfl, mny_t c6b, ht⟩) (fun q hq => absurd hq List.not_mem_nil) dX1_many_25
set_option maxHeartbeats 4000000 in
set_option maxRecDepth 100000 in
theorem mX1_manyNow (hok : Ok N st v) (i : Nat) (hi : i < N) : Met l yX1_manyNow (wm yX1_manyNow cX1_manyNow 2 (some .int)) ({ frames := 4, cells := 0, slots := 0, locals := 87 } : Room) (va_Pc [.ref (q 0), .int (nI i)] (fun U => M0 D cyI cyZ q th (nI N) st md v w U U.heap)) (va_Qi (fun (r : Int32) (u : Nat → Nat → Int32) => r = rdn v st i) (fun u U => (fun (u : Nat → Nat → Int32) => (M0 D cyI cyZ q th (nI N) st md v u : State → Heap → Prop)) u U U.heap) (own 8 q)) 0 0 (own 8 q) := by
  refine mt (by decide) (Nat.le_of_ble_eq_true rfl) ?_
  intro p ev s m below meth c ls hF hr hlocks hnm hX hl
  have hF : CallFix p m c cX1_manyNow 2 s _ wA RX1 := hF
  obtain ⟨hx, hb, hml, hown, hts⟩ := id hF
  have hX : M0 D cyI cyZ q th (nI N) st md v w s s.heap := hX
  have hl : lv_has ls 2 [(0, .ref (q 0)), (1, .int (nI i))] := hl
  have hS : va_S (own 8 q) s.heap s.heap [] := va_S.rf
  have hN := hok.1
  refine lv_aload_n hx hb dX1_manyNow_0 rfl (lv_at hl 0 rfl) ?_
  refine lv_aload_n hx hb dX1_manyNow_1 rfl (lv_at hl 0 rfl) ?_
  refine M0.get hF hX 2 (by decide) rfl rfl kf_RX1_7 dX1_manyNow_2 ?_
  refine wVv (mc := 0) (ms := 0) (As := [.int st]) (rest := []) hF (mX1_sing hok st) M0.mv (fun _ => M0.mv) hX (M0.rc hX) jyX1_sing kl_RX1_68 ⟨rfl, rfl⟩ ⟨Nat.le_of_ble_eq_true rfl, Nat.le_of_ble_eq_true rfl⟩ rfl hl.1 rfl (Nat.le_of_ble_eq_true rfl) ⟨Nat.zero_le _, Nat.zero_le _⟩ hS (fun _ _ h => h) (fun _ h => h) dX1_manyNow_5 (fun w1 H locs hp hX hz hk hS => ?_)
  have hsg := hp
  refine lv_aload_n hx hb dX1_manyNow_8 rfl (lv_at hl 0 rfl) ?_
  refine lv_iload_n hx hb dX1_manyNow_9 rfl (lv_at hl 1 rfl) ?_
  refine lv_aload_n hx hb dX1_manyNow_10 rfl (lv_at hl 0 rfl) ?_
  refine M0.get hF hX 2 (by decide) rfl rfl kf_RX1_7 dX1_manyNow_11 ?_
  refine cVi (As := [.int (nI i), .int st]) (rest := []) hF (mX1_many hok st hsg i (by omega)) M0.mv hX (M0.rc hX) jyX1_many kl_RX1_82 ⟨rfl, rfl⟩ ⟨Nat.le_of_ble_eq_true rfl, Nat.le_of_ble_eq_true rfl⟩ rfl hl.1 rfl (Nat.le_of_ble_eq_true rfl) ⟨Nat.zero_le _, Nat.zero_le _⟩ dX1_manyNow_14 (fun r hr9 => ?_)
  subst hr9
  exact W.iret hx hb hr (fun t ht hW => ⟨⟨_, w1, rfl, rfl, wEnd M0.mv hX ht hW⟩, hS.F ht⟩) hS.2.2 dX1_manyNow_17
set_option maxHeartbeats 4000000 in
set_option maxRecDepth 100000 in
theorem mX1_right (hok : Ok N st v) (i : Nat) (hi : i < N) : Met l yX1_right (wm yX1_right cX1_right 4 (some .int)) ({ frames := 3, cells := 0, slots := 0, locals := 65 } : Room) (va_Pc [.ref (q 0), .int (nI i)] (fun U => M0 D cyI cyZ q th (nI N) st md v w U U.heap)) (va_Qi (fun (r : Int32) (u : Nat → Nat → Int32) => r = rrn v st i) (fun u U => (fun (u : Nat → Nat → Int32) => (M0 D cyI cyZ q th (nI N) st md v u : State → Heap → Prop)) u U U.heap) (own 8 q)) 0 0 (own 8 q) := by
  refine mt (by decide) (Nat.le_of_ble_eq_true rfl) ?_
  intro p ev s m below meth c ls hF hr hlocks hnm hX hl
  have hF : CallFix p m c cX1_right 4 s _ wA RX1 := hF
  obtain ⟨hx, hb, hml, hown, hts⟩ := id hF
  have hX : M0 D cyI cyZ q th (nI N) st md v w s s.heap := hX
  have hl : lv_has ls 4 [(0, .ref (q 0)), (1, .int (nI i))] := hl
  have hS : va_S (own 8 q) s.heap s.heap [] := va_S.rf
  have hN := hok.1
  have h10 := okM10 hok i
  refine lv_aload_n hx hb dX1_right_0 rfl (lv_at hl 0 rfl) ?_
  refine lv_aload_n hx hb dX1_right_1 rfl (lv_at hl 0 rfl) ?_
  refine M0.get hF hX 2 (by decide) rfl rfl kf_RX1_7 dX1_right_2 ?_
  refine wVv (mc := 0) (ms := 0) (As := [.int st]) (rest := []) hF (mX1_sing hok st) M0.mv (fun _ => M0.mv) hX (M0.rc hX) jyX1_sing kl_RX1_68 ⟨rfl, rfl⟩ ⟨Nat.le_of_ble_eq_true rfl, Nat.le_of_ble_eq_true rfl⟩ rfl hl.1 rfl (Nat.le_of_ble_eq_true rfl) ⟨Nat.zero_le _, Nat.zero_le _⟩ hS (fun _ _ h => h) (fun _ h => h) dX1_right_5 (fun w1 H locs hp hX hz hk hS => ?_)
  have hsg := hp
  refine lv_aload_n hx hb dX1_right_8 rfl (lv_at hl 0 rfl) ?_
  refine lv_iload_n hx hb dX1_right_9 rfl (lv_at hl 1 rfl) ?_
  refine lv_aload_n hx hb dX1_right_10 rfl (lv_at hl 0 rfl) ?_
  refine M0.get hF hX 2 (by decide) rfl rfl kf_RX1_7 dX1_right_11 ?_
  refine cVi (As := [.int (nI i), .int st]) (rest := []) hF (mX1_isTwofold hok st hsg i (by omega)) M0.mv hX (M0.rc hX) jyX1_isTwofold kl_RX1_76 ⟨rfl, rfl⟩ ⟨Nat.le_of_ble_eq_true rfl, Nat.le_of_ble_eq_true rfl⟩ rfl hl.1 rfl (Nat.le_of_ble_eq_true rfl) ⟨Nat.zero_le _, Nat.zero_le _⟩ dX1_right_14 (fun r hr9 => ?_)
  subst hr9
  refine lv_if_eq (tgt := 42) hx hb dX1_right_17 (by decide) (fun c17 => ?_) (fun c17 => ?_)
  · have c17b := b2i_f c17
    refine lv_iconst (v := 0) hx hb dX1_right_42 (by decide) ?_
    refine topI (show 0 = rrS v st i 0 from rrS_a c17b) ?_
    refine lv_istore_n (lv' := [(2, .int (rrS v st i 0)), (0, .ref (q 0)), (1, .int (nI i))]) hx hb dX1_right_43 rfl hl (by decide) rfl (fun ls hl => ?_)
    refine lv_iconst (v := 0) hx hb dX1_right_44 (by decide) ?_
    refine lv_istore_n (lv' := [(3, .int 0), (2, .int (rrS v st i 0)), (0, .ref (q 0)), (1, .int (nI i))]) hx hb dX1_right_45 rfl hl (by decide) rfl (fun ls hl => ?_)
    refine lpW (σ := Nat) (fun j ls => (j ≤ ix (v 2 i)) ∧ lv_has ls 4 [(0, .ref (q 0)), (1, .int (nI i)), (2, .int (rrS v st i j)), (3, .int (nI j))]) (fun j => ix (v 2 i) - j) (fun j ls hI ih => ?_) (0) ⟨Nat.zero_le _, lv_sub hl [2, 3, 1, 0] rfl⟩
    obtain ⟨hj, hl⟩ := hI
    refine lv_iload_n hx hb dX1_right_46 rfl (lv_at hl 3 rfl) ?_
    refine lv_aload_n hx hb dX1_right_47 rfl (lv_at hl 0 rfl) ?_
    refine M0.get hF hX 5 (by decide) rfl rfl kf_RX1_20 dX1_right_48 ?_
    refine lv_iload_n hx hb dX1_right_51 rfl (lv_at hl 1 rfl) ?_
    refine aldI hF hX.2.1 hX.1 3 0 rfl rfl i (by omega) (by decide) rfl dX1_right_52 ?_
    refine topI (show (v 2 i) = nI (ix (v 2 i)) from okM hok i) ?_
    refine lv_icmp_ge (tgt := 90) hx hb dX1_right_53 (by decide) (fun c53 => ?_) (fun c53 => ?_)
    · have c53n : (ix (v 2 i)) ≤ j := (nI_leI (a := (ix (v 2 i))) (b := j) (by omega) (by omega)).mp c53
      obtain rfl : j = ix (v 2 i) := by omega
      refine lv_iload_n hx hb dX1_right_90 rfl (lv_at hl 2 rfl) ?_
      exact W.iret hx hb hr (fun t ht hW => ⟨⟨_, w1, rfl, rfl, wEnd M0.mv hX ht hW⟩, hS.F ht⟩) hS.2.2 dX1_right_91
    · have c53n : ¬ (ix (v 2 i)) ≤ j := fun h9 => c53 ((nI_leI (a := (ix (v 2 i))) (b := j) (by omega) (by omega)).mpr h9)
      refine lv_iload_n hx hb dX1_right_56 rfl (lv_at hl 2 rfl) ?_
      refine lv_aload_n hx hb dX1_right_57 rfl (lv_at hl 0 rfl) ?_
      refine M0.get hF hX 6 (by decide) rfl rfl kf_RX1_23 dX1_right_58 ?_
      refine lv_iload_n hx hb dX1_right_61 rfl (lv_at hl 3 rfl) ?_
      refine aldI hF hX.2.1 hX.1 4 0 rfl rfl j (by omega) (by decide) rfl dX1_right_62 ?_
      refine lv_aload_n hx hb dX1_right_63 rfl (lv_at hl 0 rfl) ?_
      refine M0.get hF hX 6 (by decide) rfl rfl kf_RX1_23 dX1_right_64 ?_
      refine lv_aload_n hx hb dX1_right_67 rfl (lv_at hl 0 rfl) ?_
      refine M0.get hF hX 5 (by decide) rfl rfl kf_RX1_20 dX1_right_68 ?_
      refine lv_iload_n hx hb dX1_right_71 rfl (lv_at hl 1 rfl) ?_
      refine aldI hF hX.2.1 hX.1 3 0 rfl rfl i (by omega) (by decide) rfl dX1_right_72 ?_
      refine aldI hF hX.2.1 hX.1 4 0 rfl rfl (ix (v 2 i)) (okM10 hok i) (by decide) (okM hok i) dX1_right_73 ?_
      refine lv_icmp_ne (tgt := 81) hx hb dX1_right_74 (by decide) (fun c74 => ?_) (fun c74 => ?_)
      · refine lv_iconst (v := 0) hx hb dX1_right_81 (by decide) ?_
        refine lv_iadd hx hb dX1_right_82 ?_
        refine topI (show ((rrS v st i j) + 0) = rrS v st i (j + 1) from rrS_f c74) ?_
        refine lv_istore_n (lv' := [(2, .int (rrS v st i (j + 1))), (0, .ref (q 0)), (1, .int (nI i)), (3, .int (nI j))]) hx hb dX1_right_83 rfl hl (by decide) rfl (fun ls hl => ?_)
        refine lv_iinc (v := (nI (j + 1))) (lv' := [(3, .int (nI (j + 1))), (2, .int (rrS v st i (j + 1))), (0, .ref (q 0)), (1, .int (nI i))]) hx hb dX1_right_84 hl (k := 3) rfl (nI_1 _) (by decide) rfl (fun ls hl => ?_)
        refine lv_goto (tgt := 46) hx hb dX1_right_87 (by decide) ?_
        exact ih (j + 1) ls (by omega) ⟨by omega, by exact lv_sub hl [2, 3, 1, 0] rfl⟩
      · refine lv_iconst (v := 1) hx hb dX1_right_77 (by decide) ?_
        refine lv_goto (tgt := 82) hx hb dX1_right_78 (by decide) ?_
        refine lv_iadd hx hb dX1_right_82 ?_
        refine topI (show ((rrS v st i j) + 1) = rrS v st i (j + 1) from rrS_t c74) ?_
        refine lv_istore_n (lv' := [(2, .int (rrS v st i (j + 1))), (0, .ref (q 0)), (1, .int (nI i)), (3, .int (nI j))]) hx hb dX1_right_83 rfl hl (by decide) rfl (fun ls hl => ?_)
        refine lv_iinc (v := (nI (j + 1))) (lv' := [(3, .int (nI (j + 1))), (2, .int (rrS v st i (j + 1))), (0, .ref (q 0)), (1, .int (nI i))]) hx hb dX1_right_84 hl (k := 3) rfl (nI_1 _) (by decide) rfl (fun ls hl => ?_)
        refine lv_goto (tgt := 46) hx hb dX1_right_87 (by decide) ?_
        exact ih (j + 1) ls (by omega) ⟨by omega, by exact lv_sub hl [2, 3, 1, 0] rfl⟩
  · have c17b := b2i_t c17
    refine lv_aload_n hx hb dX1_right_20 rfl (lv_at hl 0 rfl) ?_
    refine M0.get hF hX 3 (by decide) rfl rfl kf_RX1_13 dX1_right_21 ?_
    refine lv_iload_n hx hb dX1_right_24 rfl (lv_at hl 1 rfl) ?_
    refine aldI hF hX.2.1 hX.1 1 0 rfl rfl i (by omega) (by decide) rfl dX1_right_25 ?_
    refine lv_if_le (tgt := 42) hx hb dX1_right_26 (by decide) (fun c26 => ?_) (fun c26 => ?_)
    · refine lv_iconst (v := 0) hx hb dX1_right_42 (by decide) ?_
      refine topI (show 0 = rrS v st i 0 from rrS_b c26) ?_
      refine lv_istore_n (lv' := [(2, .int (rrS v st i 0)), (0, .ref (q 0)), (1, .int (nI i))]) hx hb dX1_right_43 rfl hl (by decide) rfl (fun ls hl => ?_)
      refine lv_iconst (v := 0) hx hb dX1_right_44 (by decide) ?_
      refine lv_istore_n (lv' := [(3, .int 0), (2, .int (rrS v st i 0)), (0, .ref (q 0)), (1, .int (nI i))]) hx hb dX1_right_45 rfl hl (by decide) rfl (fun ls hl => ?_)
      refine lpW (σ := Nat) (fun j ls => (j ≤ ix (v 2 i)) ∧ lv_has ls 4 [(0, .ref (q 0)), (1, .int (nI i)), (2, .int (rrS v st i j)), (3, .int (nI j))]) (fun j => ix (v 2 i) - j) (fun j ls hI ih => ?_) (0) ⟨Nat.zero_le _, lv_sub hl [2, 3, 1, 0] rfl⟩
      obtain ⟨hj, hl⟩ := hI
      refine lv_iload_n hx hb dX1_right_46 rfl (lv_at hl 3 rfl) ?_
      refine lv_aload_n hx hb dX1_right_47 rfl (lv_at hl 0 rfl) ?_
      refine M0.get hF hX 5 (by decide) rfl rfl kf_RX1_20 dX1_right_48 ?_
      refine lv_iload_n hx hb dX1_right_51 rfl (lv_at hl 1 rfl) ?_
      refine aldI hF hX.2.1 hX.1 3 0 rfl rfl i (by omega) (by decide) rfl dX1_right_52 ?_
      refine topI (show (v 2 i) = nI (ix (v 2 i)) from okM hok i) ?_
      refine lv_icmp_ge (tgt := 90) hx hb dX1_right_53 (by decide) (fun c53 => ?_) (fun c53 => ?_)
      · have c53n : (ix (v 2 i)) ≤ j := (nI_leI (a := (ix (v 2 i))) (b := j) (by omega) (by omega)).mp c53
        obtain rfl : j = ix (v 2 i) := by omega
        refine lv_iload_n hx hb dX1_right_90 rfl (lv_at hl 2 rfl) ?_
        exact W.iret hx hb hr (fun t ht hW => ⟨⟨_, w1, rfl, rfl, wEnd M0.mv hX ht hW⟩, hS.F ht⟩) hS.2.2 dX1_right_91
      · have c53n : ¬ (ix (v 2 i)) ≤ j := fun h9 => c53 ((nI_leI (a := (ix (v 2 i))) (b := j) (by omega) (by omega)).mpr h9)
        refine lv_iload_n hx hb dX1_right_56 rfl (lv_at hl 2 rfl) ?_
        refine lv_aload_n hx hb dX1_right_57 rfl (lv_at hl 0 rfl) ?_
        refine M0.get hF hX 6 (by decide) rfl rfl kf_RX1_23 dX1_right_58 ?_
        refine lv_iload_n hx hb dX1_right_61 rfl (lv_at hl 3 rfl) ?_
        refine aldI hF hX.2.1 hX.1 4 0 rfl rfl j (by omega) (by decide) rfl dX1_right_62 ?_
        refine lv_aload_n hx hb dX1_right_63 rfl (lv_at hl 0 rfl) ?_
        refine M0.get hF hX 6 (by decide) rfl rfl kf_RX1_23 dX1_right_64 ?_
        refine lv_aload_n hx hb dX1_right_67 rfl (lv_at hl 0 rfl) ?_
        refine M0.get hF hX 5 (by decide) rfl rfl kf_RX1_20 dX1_right_68 ?_
        refine lv_iload_n hx hb dX1_right_71 rfl (lv_at hl 1 rfl) ?_
        refine aldI hF hX.2.1 hX.1 3 0 rfl rfl i (by omega) (by decide) rfl dX1_right_72 ?_
        refine aldI hF hX.2.1 hX.1 4 0 rfl rfl (ix (v 2 i)) (okM10 hok i) (by decide) (okM hok i) dX1_right_73 ?_
        refine lv_icmp_ne (tgt := 81) hx hb dX1_right_74 (by decide) (fun c74 => ?_) (fun c74 => ?_)
        · refine lv_iconst (v := 0) hx hb dX1_right_81 (by decide) ?_
          refine lv_iadd hx hb dX1_right_82 ?_
          refine topI (show ((rrS v st i j) + 0) = rrS v st i (j + 1) from rrS_f c74) ?_
          refine lv_istore_n (lv' := [(2, .int (rrS v st i (j + 1))), (0, .ref (q 0)), (1, .int (nI i)), (3, .int (nI j))]) hx hb dX1_right_83 rfl hl (by decide) rfl (fun ls hl => ?_)
          refine lv_iinc (v := (nI (j + 1))) (lv' := [(3, .int (nI (j + 1))), (2, .int (rrS v st i (j + 1))), (0, .ref (q 0)), (1, .int (nI i))]) hx hb dX1_right_84 hl (k := 3) rfl (nI_1 _) (by decide) rfl (fun ls hl => ?_)
          refine lv_goto (tgt := 46) hx hb dX1_right_87 (by decide) ?_
          exact ih (j + 1) ls (by omega) ⟨by omega, by exact lv_sub hl [2, 3, 1, 0] rfl⟩
        · refine lv_iconst (v := 1) hx hb dX1_right_77 (by decide) ?_
          refine lv_goto (tgt := 82) hx hb dX1_right_78 (by decide) ?_
          refine lv_iadd hx hb dX1_right_82 ?_
          refine topI (show ((rrS v st i j) + 1) = rrS v st i (j + 1) from rrS_t c74) ?_
          refine lv_istore_n (lv' := [(2, .int (rrS v st i (j + 1))), (0, .ref (q 0)), (1, .int (nI i)), (3, .int (nI j))]) hx hb dX1_right_83 rfl hl (by decide) rfl (fun ls hl => ?_)
          refine lv_iinc (v := (nI (j + 1))) (lv' := [(3, .int (nI (j + 1))), (2, .int (rrS v st i (j + 1))), (0, .ref (q 0)), (1, .int (nI i))]) hx hb dX1_right_84 hl (k := 3) rfl (nI_1 _) (by decide) rfl (fun ls hl => ?_)
          refine lv_goto (tgt := 46) hx hb dX1_right_87 (by decide) ?_
          exact ih (j + 1) ls (by omega) ⟨by omega, by exact lv_sub hl [2, 3, 1, 0] rfl⟩
    · refine lv_aload_n hx hb dX1_right_29 rfl (lv_at hl 0 rfl) ?_
      refine lv_aload_n hx hb dX1_right_30 rfl (lv_at hl 0 rfl) ?_
      refine M0.get hF hX 5 (by decide) rfl rfl kf_RX1_20 dX1_right_31 ?_
      refine lv_iload_n hx hb dX1_right_34 rfl (lv_at hl 1 rfl) ?_
      refine aldI hF hX.2.1 hX.1 3 0 rfl rfl i (by omega) (by decide) rfl dX1_right_35 ?_
      refine topI (show (v 2 i) = nI (ix (v 2 i)) from okM hok i) ?_
      refine cVi (As := [.int (nI (ix (v 2 i)))]) (rest := []) hF (mX1_alike (ix (v 2 i)) (okM10 hok i)) M0.mv hX (M0.rc hX) jyX1_alike kl_RX1_79 ⟨rfl, rfl⟩ ⟨Nat.le_of_ble_eq_true rfl, Nat.le_of_ble_eq_true rfl⟩ rfl hl.1 rfl (Nat.le_of_ble_eq_true rfl) ⟨Nat.zero_le _, Nat.zero_le _⟩ dX1_right_36 (fun r hr9 => ?_)
      subst hr9
      refine lv_goto (tgt := 43) hx hb dX1_right_39 (by decide) ?_
      refine topI (show (lc (v 3) (v 3 (ix (v 2 i))) 10) = rrS v st i 0 from rrS_c c17b c26) ?_
      refine lv_istore_n (lv' := [(2, .int (rrS v st i 0)), (0, .ref (q 0)), (1, .int (nI i))]) hx hb dX1_right_43 rfl hl (by decide) rfl (fun ls hl => ?_)
      refine lv_iconst (v := 0) hx hb dX1_right_44 (by decide) ?_
      refine lv_istore_n (lv' := [(3, .int 0), (2, .int (rrS v st i 0)), (0, .ref (q 0)), (1, .int (nI i))]) hx hb dX1_right_45 rfl hl (by decide) rfl (fun ls hl => ?_)
      refine lpW (σ := Nat) (fun j ls => (j ≤ ix (v 2 i)) ∧ lv_has ls 4 [(0, .ref (q 0)), (1, .int (nI i)), (2, .int (rrS v st i j)), (3, .int (nI j))]) (fun j => ix (v 2 i) - j) (fun j ls hI ih => ?_) (0) ⟨Nat.zero_le _, lv_sub hl [2, 3, 1, 0] rfl⟩
      obtain ⟨hj, hl⟩ := hI
      refine lv_iload_n hx hb dX1_right_46 rfl (lv_at hl 3 rfl) ?_
      refine lv_aload_n hx hb dX1_right_47 rfl (lv_at hl 0 rfl) ?_
      refine M0.get hF hX 5 (by decide) rfl rfl kf_RX1_20 dX1_right_48 ?_
      refine lv_iload_n hx hb dX1_right_51 rfl (lv_at hl 1 rfl) ?_
      refine aldI hF hX.2.1 hX.1 3 0 rfl rfl i (by omega) (by decide) rfl dX1_right_52 ?_
      refine topI (show (v 2 i) = nI (ix (v 2 i)) from okM hok i) ?_
      refine lv_icmp_ge (tgt := 90) hx hb dX1_right_53 (by decide) (fun c53 => ?_) (fun c53 => ?_)
      · have c53n : (ix (v 2 i)) ≤ j := (nI_leI (a := (ix (v 2 i))) (b := j) (by omega) (by omega)).mp c53
        obtain rfl : j = ix (v 2 i) := by omega
        refine lv_iload_n hx hb dX1_right_90 rfl (lv_at hl 2 rfl) ?_
        exact W.iret hx hb hr (fun t ht hW => ⟨⟨_, w1, rfl, rfl, wEnd M0.mv hX ht hW⟩, hS.F ht⟩) hS.2.2 dX1_right_91
      · have c53n : ¬ (ix (v 2 i)) ≤ j := fun h9 => c53 ((nI_leI (a := (ix (v 2 i))) (b := j) (by omega) (by omega)).mpr h9)
        refine lv_iload_n hx hb dX1_right_56 rfl (lv_at hl 2 rfl) ?_
        refine lv_aload_n hx hb dX1_right_57 rfl (lv_at hl 0 rfl) ?_
        refine M0.get hF hX 6 (by decide) rfl rfl kf_RX1_23 dX1_right_58 ?_
        refine lv_iload_n hx hb dX1_right_61 rfl (lv_at hl 3 rfl) ?_
        refine aldI hF hX.2.1 hX.1 4 0 rfl rfl j (by omega) (by decide) rfl dX1_right_62 ?_
        refine lv_aload_n hx hb dX1_right_63 rfl (lv_at hl 0 rfl) ?_
        refine M0.get hF hX 6 (by decide) rfl rfl kf_RX1_23 dX1_right_64 ?_
        refine lv_aload_n hx hb dX1_right_67 rfl (lv_at hl 0 rfl) ?_
        refine M0.get hF hX 5 (by decide) rfl rfl kf_RX1_20 dX1_right_68 ?_
        refine lv_iload_n hx hb dX1_right_71 rfl (lv_at hl 1 rfl) ?_
        refine aldI hF hX.2.1 hX.1 3 0 rfl rfl i (by omega) (by decide) rfl dX1_right_72 ?_
        refine aldI hF hX.2.1 hX.1 4 0 rfl rfl (ix (v 2 i)) (okM10 hok i) (by decide) (okM hok i) dX1_right_73 ?_
        refine lv_icmp_ne (tgt := 81) hx hb dX1_right_74 (by decide) (fun c74 => ?_) (fun c74 => ?_)
        · refine lv_iconst (v := 0) hx hb dX1_right_81 (by decide) ?_
          refine lv_iadd hx hb dX1_right_82 ?_
          refine topI (show ((rrS v st i j) + 0) = rrS v st i (j + 1) from rrS_f c74) ?_
          refine lv_istore_n (lv' := [(2, .int (rrS v st i (j + 1))), (0, .ref (q 0)), (1, .int (nI i)), (3, .int (nI j))]) hx hb dX1_right_83 rfl hl (by decide) rfl (fun ls hl => ?_)
          refine lv_iinc (v := (nI (j + 1))) (lv' := [(3, .int (nI (j + 1))), (2, .int (rrS v st i (j + 1))), (0, .ref (q 0)), (1, .int (nI i))]) hx hb dX1_right_84 hl (k := 3) rfl (nI_1 _) (by decide) rfl (fun ls hl => ?_)
          refine lv_goto (tgt := 46) hx hb dX1_right_87 (by decide) ?_
          exact ih (j + 1) ls (by omega) ⟨by omega, by exact lv_sub hl [2, 3, 1, 0] rfl⟩
        · refine lv_iconst (v := 1) hx hb dX1_right_77 (by decide) ?_
          refine lv_goto (tgt := 82) hx hb dX1_right_78 (by decide) ?_
          refine lv_iadd hx hb dX1_right_82 ?_
          refine topI (show ((rrS v st i j) + 1) = rrS v st i (j + 1) from rrS_t c74) ?_
          refine lv_istore_n (lv' := [(2, .int (rrS v st i (j + 1))), (0, .ref (q 0)), (1, .int (nI i)), (3, .int (nI j))]) hx hb dX1_right_83 rfl hl (by decide) rfl (fun ls hl => ?_)
          refine lv_iinc (v := (nI (j + 1))) (lv' := [(3, .int (nI (j + 1))), (2, .int (rrS v st i (j + 1))), (0, .ref (q 0)), (1, .int (nI i))]) hx hb dX1_right_84 hl (k := 3) rfl (nI_1 _) (by decide) rfl (fun ls hl => ?_)
          refine lv_goto (tgt := 46) hx hb dX1_right_87 (by decide) ?_
          exact ih (j + 1) ls (by omega) ⟨by omega, by exact lv_sub hl [2, 3, 1, 0] rfl⟩
set_option maxHeartbeats 4000000 in
set_option maxRecDepth 100000 in
theorem mX1_isMendedNow (hok : Ok N st v) (hmk : Mk N mk md) (i : Nat) (hi : i < N) : Met l yX1_isMendedNow (wm yX1_isMendedNow cX1_isMendedNow 2 (some .boolean)) ({ frames := 0, cells := 0, slots := 0, locals := 0 } : Room) (va_Pc [.ref (q 0), .int (nI i)] (fun U => M0 D cyI cyZ q th (nI N) st md v w U U.heap)) (vp_Si (fun r => r = b2i (mk i))) 0 0 (fun _ => False) := by
  refine mt (by decide) (Nat.le_of_ble_eq_true rfl) ?_
  intro p ev s m below meth c ls hF hr hlocks hnm hX hl
  have hF : CallFix p m c cX1_isMendedNow 2 s _ wA RX1 := hF
  obtain ⟨hx, hb, hml, hown, hts⟩ := id hF
  have hX : M0 D cyI cyZ q th (nI N) st md v w s s.heap := hX
  have hl : lv_has ls 2 [(0, .ref (q 0)), (1, .int (nI i))] := hl
  have hN := hok.1
  refine lv_aload_n hx hb dX1_isMendedNow_0 rfl (lv_at hl 0 rfl) ?_
  refine M0.get hF hX 7 (by decide) rfl rfl kf_RX1_85 dX1_isMendedNow_1 ?_
  refine lv_iload_n hx hb dX1_isMendedNow_4 rfl (lv_at hl 1 rfl) ?_
  refine lv_ishr hx hb dX1_isMendedNow_5 ?_
  refine lv_iconst (v := 1) hx hb dX1_isMendedNow_6 (by decide) ?_
  refine lv_iand hx hb dX1_isMendedNow_7 ?_
  refine topI (show ((md >>> ((nI i) &&& 31)) &&& 1) = b2i (mk i) from Mk_get hmk hN hi) ?_
  refine lv_iconst (v := 1) hx hb dX1_isMendedNow_8 (by decide) ?_
  refine lv_icmp_ne (tgt := 16) hx hb dX1_isMendedNow_9 (by decide) (fun c9 => ?_) (fun c9 => ?_)
  · refine lv_iconst (v := 0) hx hb dX1_isMendedNow_16 (by decide) ?_
    exact W.zret hx hb hr rfl (fun t ht hW => ⟨_, rfl, b2i_0 (b2i_n1 c9), ht⟩) (fun q hq => absurd hq List.not_mem_nil) dX1_isMendedNow_17
  · refine lv_iconst (v := 1) hx hb dX1_isMendedNow_12 (by decide) ?_
    refine lv_goto (tgt := 17) hx hb dX1_isMendedNow_13 (by decide) ?_
    exact W.zret hx hb hr rfl (fun t ht hW => ⟨_, rfl, b2i_1 (b2i_y1 c9), ht⟩) (fun q hq => absurd hq List.not_mem_nil) dX1_isMendedNow_17
set_option maxHeartbeats 4000000 in
set_option maxRecDepth 100000 in
theorem mX1_isOpen (hok : Ok N st v) (hmk : Mk N mk md) (i : Nat) (hi : i < N) : Met l yX1_isOpen (wm yX1_isOpen cX1_isOpen 2 (some .boolean)) ({ frames := 5, cells := 0, slots := 0, locals := 108 } : Room) (va_Pc [.ref (q 0), .int (nI i)] (fun U => M0 D cyI cyZ q th (nI N) st md v w U U.heap)) (va_Qi (fun (r : Int32) (u : Nat → Nat → Int32) => r = b2i (amb v st mk i)) (fun u U => (fun (u : Nat → Nat → Int32) => (M0 D cyI cyZ q th (nI N) st md v u : State → Heap → Prop)) u U U.heap) (own 8 q)) 0 0 (own 8 q) := by
  refine mt (by decide) (Nat.le_of_ble_eq_true rfl) ?_
  intro p ev s m below meth c ls hF hr hlocks hnm hX hl
  have hF : CallFix p m c cX1_isOpen 2 s _ wA RX1 := hF
  obtain ⟨hx, hb, hml, hown, hts⟩ := id hF
  have hX : M0 D cyI cyZ q th (nI N) st md v w s s.heap := hX
  have hl : lv_has ls 2 [(0, .ref (q 0)), (1, .int (nI i))] := hl
  have hS : va_S (own 8 q) s.heap s.heap [] := va_S.rf
  have hN := hok.1
  refine lv_aload_n hx hb dX1_isOpen_0 rfl (lv_at hl 0 rfl) ?_
  refine lv_iload_n hx hb dX1_isOpen_1 rfl (lv_at hl 1 rfl) ?_
  refine cVi (As := [.int (nI i)]) (rest := []) hF (mX1_isMendedNow hok hmk i (by omega)) M0.mv hX (M0.rc hX) jyX1_isMendedNow kl_RX1_88 ⟨rfl, rfl⟩ ⟨Nat.le_of_ble_eq_true rfl, Nat.le_of_ble_eq_true rfl⟩ rfl hl.1 rfl (Nat.le_of_ble_eq_true rfl) ⟨Nat.zero_le _, Nat.zero_le _⟩ dX1_isOpen_2 (fun r hr9 => ?_)
  subst hr9
  refine lv_if_ne (tgt := 21) hx hb dX1_isOpen_5 (by decide) (fun c5 => ?_) (fun c5 => ?_)
  · have c5b := b2i_t c5
    refine lv_iconst (v := 0) hx hb dX1_isOpen_21 (by decide) ?_
    exact W.zret hx hb hr rfl (fun t ht hW => ⟨⟨_, w, rfl, b2i_0 (amb_o c5b), wEnd M0.mv hX ht hW⟩, hS.F ht⟩) hS.2.2 dX1_isOpen_22
  · have c5b := b2i_f c5
    refine lv_aload_n hx hb dX1_isOpen_8 rfl (lv_at hl 0 rfl) ?_
    refine lv_iload_n hx hb dX1_isOpen_9 rfl (lv_at hl 1 rfl) ?_
    refine wVi (mc := 0) (ms := 0) (As := [.int (nI i)]) (rest := []) hF (mX1_manyNow hok i (by omega)) M0.mv (fun _ => M0.mv) hX (M0.rc hX) jyX1_manyNow kl_RX1_91 ⟨rfl, rfl⟩ ⟨Nat.le_of_ble_eq_true rfl, Nat.le_of_ble_eq_true rfl⟩ rfl hl.1 rfl (Nat.le_of_ble_eq_true rfl) ⟨Nat.zero_le _, Nat.zero_le _⟩ hS (fun _ _ h => h) (fun _ h => h) dX1_isOpen_10 (fun r9 w1 H locs hp hX hz hk hS => ?_)
    have hr9 := hp
    subst hr9
    refine lv_iconst (v := 1) hx hb dX1_isOpen_13 (by decide) ?_
    refine lv_icmp_le (tgt := 21) hx hb dX1_isOpen_14 (by decide) (fun c14 => ?_) (fun c14 => ?_)
    · refine lv_iconst (v := 0) hx hb dX1_isOpen_21 (by decide) ?_
      exact W.zret hx hb hr rfl (fun t ht hW => ⟨⟨_, w1, rfl, b2i_0 (amb_0 c14), wEnd M0.mv hX ht hW⟩, hS.F ht⟩) hS.2.2 dX1_isOpen_22
    · refine lv_iconst (v := 1) hx hb dX1_isOpen_17 (by decide) ?_
      refine lv_goto (tgt := 22) hx hb dX1_isOpen_18 (by decide) ?_
      exact W.zret hx hb hr rfl (fun t ht hW => ⟨⟨_, w1, rfl, b2i_1 (amb_1 c5b c14), wEnd M0.mv hX ht hW⟩, hS.F ht⟩) hS.2.2 dX1_isOpen_22
set_option maxHeartbeats 4000000 in
set_option maxRecDepth 100000 in
theorem mX1_open (hok : Ok N st v) (hmk : Mk N mk md) : Met l yX1_open (wm yX1_open cX1_open 3 (some .int)) ({ frames := 6, cells := 0, slots := 0, locals := 129 } : Room) (va_Pc [.ref (q 0)] (fun U => M0 D cyI cyZ q th (nI N) st md v w U U.heap)) (va_Qi (fun (r : Int32) (u : Nat → Nat → Int32) => r = ctB (amb v st mk) N) (fun u U => (fun (u : Nat → Nat → Int32) => (M0 D cyI cyZ q th (nI N) st md v u : State → Heap → Prop)) u U U.heap) (own 8 q)) 0 0 (own 8 q) := by
  refine mt (by decide) (Nat.le_of_ble_eq_true rfl) ?_
  intro p ev s m below meth c ls hF hr hlocks hnm hX hl
  have hF : CallFix p m c cX1_open 3 s _ wA RX1 := hF
  obtain ⟨hx, hb, hml, hown, hts⟩ := id hF
  have hX : M0 D cyI cyZ q th (nI N) st md v w s s.heap := hX
  have hl : lv_has ls 3 [(0, .ref (q 0))] := hl
  have hS : va_S (own 8 q) s.heap s.heap [] := va_S.rf
  have hN := hok.1
  refine lv_iconst (v := 0) hx hb dX1_open_0 (by decide) ?_
  refine lv_istore_n (lv' := [(1, .int 0), (0, .ref (q 0))]) hx hb dX1_open_1 rfl hl (by decide) rfl (fun ls hl => ?_)
  refine lv_iconst (v := 0) hx hb dX1_open_2 (by decide) ?_
  refine lv_istore_n (lv' := [(2, .int 0), (1, .int 0), (0, .ref (q 0))]) hx hb dX1_open_3 rfl hl (by decide) rfl (fun ls hl => ?_)
  refine lpH2 (σ := Nat) (τ := Nat → Nat → Int32) (fun j w ls H locs => (j ≤ N) ∧ M0 D cyI cyZ q th (nI N) st md v w s H ∧ va_S (own 8 q) s.heap H locs ∧ lv_has ls 3 [(0, .ref (q 0)), (1, .int (ctB (amb v st mk) j)), (2, .int (nI j))]) (fun j w => N - j) (fun j w ls H locs hI ih => ?_) (0) w ⟨Nat.zero_le _, hX, hS, lv_sub hl [2, 1, 0] rfl⟩
  obtain ⟨hj, hX, hS, hl⟩ := hI
  refine lv_iload_n hx hb dX1_open_4 rfl (lv_at hl 2 rfl) ?_
  refine lv_aload_n hx hb dX1_open_5 rfl (lv_at hl 0 rfl) ?_
  refine M0.get hF hX 1 (by decide) rfl rfl kf_RX1_38 dX1_open_6 ?_
  refine lv_icmp_ge (tgt := 34) hx hb dX1_open_9 (by decide) (fun c9 => ?_) (fun c9 => ?_)
  · have c9n : N ≤ j := (nI_leI (a := N) (b := j) (by omega) (by omega)).mp c9
    obtain rfl : j = N := by omega
    refine lv_iload_n hx hb dX1_open_34 rfl (lv_at hl 1 rfl) ?_
    exact W.iret hx hb hr (fun t ht hW => ⟨⟨_, w, rfl, rfl, wEnd M0.mv hX ht hW⟩, hS.F ht⟩) hS.2.2 dX1_open_35
  · have c9n : ¬ N ≤ j := fun h9 => c9 ((nI_leI (a := N) (b := j) (by omega) (by omega)).mpr h9)
    refine lv_iload_n hx hb dX1_open_12 rfl (lv_at hl 1 rfl) ?_
    refine lv_aload_n hx hb dX1_open_13 rfl (lv_at hl 0 rfl) ?_
    refine lv_iload_n hx hb dX1_open_14 rfl (lv_at hl 2 rfl) ?_
    refine wVi (mc := 0) (ms := 0) (As := [.int (nI j)]) (rest := [.int (ctB (amb v st mk) j)]) hF (mX1_isOpen hok hmk j (by omega)) M0.mv (fun _ => M0.mv) hX (M0.rc hX) jyX1_isOpen kl_RX1_94 ⟨rfl, rfl⟩ ⟨Nat.le_of_ble_eq_true rfl, Nat.le_of_ble_eq_true rfl⟩ rfl hl.1 rfl (Nat.le_of_ble_eq_true rfl) ⟨Nat.zero_le _, Nat.zero_le _⟩ hS (fun _ _ h => h) (fun _ h => h) dX1_open_15 (fun r9 w1 H locs hp hX hz hk hS => ?_)
    have hr9 := hp
    subst hr9
    refine lv_if_eq (tgt := 25) hx hb dX1_open_18 (by decide) (fun c18 => ?_) (fun c18 => ?_)
    · have c18b := b2i_f c18
      refine lv_iconst (v := 0) hx hb dX1_open_25 (by decide) ?_
      refine lv_iadd hx hb dX1_open_26 ?_
      refine topI (show ((ctB (amb v st mk) j) + 0) = ctB (amb v st mk) (j + 1) from ctB_f' c18b) ?_
      refine lv_istore_n (lv' := [(1, .int (ctB (amb v st mk) (j + 1))), (0, .ref (q 0)), (2, .int (nI j))]) hx hb dX1_open_27 rfl hl (by decide) rfl (fun ls hl => ?_)
      refine lv_iinc (v := (nI (j + 1))) (lv' := [(2, .int (nI (j + 1))), (1, .int (ctB (amb v st mk) (j + 1))), (0, .ref (q 0))]) hx hb dX1_open_28 hl (k := 2) rfl (nI_1 _) (by decide) rfl (fun ls hl => ?_)
      refine lv_goto (tgt := 4) hx hb dX1_open_31 (by decide) ?_
      exact ih (j + 1) w1 ls H locs (by omega) ⟨by omega, hX, hS, by exact lv_sub hl [2, 1, 0] rfl⟩
    · have c18b := b2i_t c18
      refine lv_iconst (v := 1) hx hb dX1_open_21 (by decide) ?_
      refine lv_goto (tgt := 26) hx hb dX1_open_22 (by decide) ?_
      refine lv_iadd hx hb dX1_open_26 ?_
      refine topI (show ((ctB (amb v st mk) j) + 1) = ctB (amb v st mk) (j + 1) from ctB_t' c18b) ?_
      refine lv_istore_n (lv' := [(1, .int (ctB (amb v st mk) (j + 1))), (0, .ref (q 0)), (2, .int (nI j))]) hx hb dX1_open_27 rfl hl (by decide) rfl (fun ls hl => ?_)
      refine lv_iinc (v := (nI (j + 1))) (lv' := [(2, .int (nI (j + 1))), (1, .int (ctB (amb v st mk) (j + 1))), (0, .ref (q 0))]) hx hb dX1_open_28 hl (k := 2) rfl (nI_1 _) (by decide) rfl (fun ls hl => ?_)
      refine lv_goto (tgt := 4) hx hb dX1_open_31 (by decide) ?_
      exact ih (j + 1) w1 ls H locs (by omega) ⟨by omega, hX, hS, by exact lv_sub hl [2, 1, 0] rfl⟩
set_option maxHeartbeats 4000000 in
set_option maxRecDepth 100000 in
theorem mX1_all (hok : Ok N st v) (hmk : Mk N mk md) : Met l yX1_all (wm yX1_all cX1_all 4 (some .long)) ({ frames := 6, cells := 0, slots := 0, locals := 129 } : Room) (va_Pc [.ref (q 0)] (fun U => M0 D cyI cyZ q th (nI N) st md v w U U.heap)) (va_Ql (fun (r : Int64) (u : Nat → Nat → Int32) => r = wys v st mk N) (fun u U => (fun (u : Nat → Nat → Int32) => (M0 D cyI cyZ q th (nI N) st md v u : State → Heap → Prop)) u U U.heap) (own 8 q)) 0 0 (own 8 q) := by
  refine mt (by decide) (Nat.le_of_ble_eq_true rfl) ?_
  intro p ev s m below meth c ls hF hr hlocks hnm hX hl
  have hF : CallFix p m c cX1_all 4 s _ wA RX1 := hF
  obtain ⟨hx, hb, hml, hown, hts⟩ := id hF
  have hX : M0 D cyI cyZ q th (nI N) st md v w s s.heap := hX
  have hl : lv_has ls 4 [(0, .ref (q 0))] := hl
  have hS : va_S (own 8 q) s.heap s.heap [] := va_S.rf
  have hN := hok.1
  refine lv_lconst (v := 1) hx hb dX1_all_0 (by decide) ?_
  refine lv_lstore_n (lv' := [(1, .long 1), (0, .ref (q 0))]) hx hb dX1_all_1 rfl hl (by decide) rfl (fun ls hl => ?_)
  refine lv_iconst (v := 0) hx hb dX1_all_2 (by decide) ?_
  refine lv_istore_n (lv' := [(3, .int 0), (1, .long 1), (0, .ref (q 0))]) hx hb dX1_all_3 rfl hl (by decide) rfl (fun ls hl => ?_)
  refine lpH2 (σ := Nat) (τ := Nat → Nat → Int32) (fun j w ls H locs => (j ≤ N) ∧ M0 D cyI cyZ q th (nI N) st md v w s H ∧ va_S (own 8 q) s.heap H locs ∧ lv_has ls 4 [(0, .ref (q 0)), (1, .long (wys v st mk j)), (3, .int (nI j))]) (fun j w => N - j) (fun j w ls H locs hI ih => ?_) (0) w ⟨Nat.zero_le _, hX, hS, lv_sub hl [2, 1, 0] rfl⟩
  obtain ⟨hj, hX, hS, hl⟩ := hI
  refine lv_iload_n hx hb dX1_all_4 rfl (lv_at hl 2 rfl) ?_
  refine lv_aload_n hx hb dX1_all_5 rfl (lv_at hl 0 rfl) ?_
  refine M0.get hF hX 1 (by decide) rfl rfl kf_RX1_38 dX1_all_6 ?_
  refine lv_icmp_ge (tgt := 41) hx hb dX1_all_9 (by decide) (fun c9 => ?_) (fun c9 => ?_)
  · have c9n : N ≤ j := (nI_leI (a := N) (b := j) (by omega) (by omega)).mp c9
    obtain rfl : j = N := by omega
    refine lv_lload_n hx hb dX1_all_41 rfl (lv_at hl 1 rfl) ?_
    exact W.lret hx hb hr (fun t ht hW => ⟨⟨_, w, rfl, rfl, wEnd M0.mv hX ht hW⟩, hS.F ht⟩) hS.2.2 dX1_all_42
  · have c9n : ¬ N ≤ j := fun h9 => c9 ((nI_leI (a := N) (b := j) (by omega) (by omega)).mpr h9)
    refine lv_aload_n hx hb dX1_all_12 rfl (lv_at hl 0 rfl) ?_
    refine lv_iload_n hx hb dX1_all_13 rfl (lv_at hl 2 rfl) ?_
    refine wVi (mc := 0) (ms := 0) (As := [.int (nI j)]) (rest := []) hF (mX1_isOpen hok hmk j (by omega)) M0.mv (fun _ => M0.mv) hX (M0.rc hX) jyX1_isOpen kl_RX1_94 ⟨rfl, rfl⟩ ⟨Nat.le_of_ble_eq_true rfl, Nat.le_of_ble_eq_true rfl⟩ rfl hl.1 rfl (Nat.le_of_ble_eq_true rfl) ⟨Nat.zero_le _, Nat.zero_le _⟩ hS (fun _ _ h => h) (fun _ h => h) dX1_all_14 (fun r9 w1 H locs hp hX hz hk hS => ?_)
    have hr9 := hp
    subst hr9
    refine lv_if_eq (tgt := 35) hx hb dX1_all_17 (by decide) (fun c17 => ?_) (fun c17 => ?_)
    · have c17b := b2i_f c17
      refine lv_iinc (v := (nI (j + 1))) (lv' := [(3, .int (nI (j + 1))), (0, .ref (q 0)), (1, .long (wys v st mk j))]) hx hb dX1_all_35 hl (k := 2) rfl (nI_1 _) (by decide) rfl (fun ls hl => ?_)
      refine lv_goto (tgt := 4) hx hb dX1_all_38 (by decide) ?_
      exact ih (j + 1) w1 ls H locs (by omega) ⟨by omega, hX, hS, by rw [wys_f c17b]; exact lv_sub hl [1, 2, 0] rfl⟩
    · have c17b := b2i_t c17
      refine lv_ldc2 hx hb hown (hts _ kk_RX1_97) dX1_all_20 ?_
      refine lv_lload_n hx hb dX1_all_23 rfl (lv_at hl 1 rfl) ?_
      refine lv_aload_n hx hb dX1_all_24 rfl (lv_at hl 0 rfl) ?_
      refine lv_iload_n hx hb dX1_all_25 rfl (lv_at hl 2 rfl) ?_
      refine wVi (mc := 0) (ms := 0) (As := [.int (nI j)]) (rest := [.long (wys v st mk j), .long 1000000000]) hF (mX1_manyNow hok j (by omega)) M0.mv (fun _ => M0.mv) hX (M0.rc hX) jyX1_manyNow kl_RX1_91 ⟨rfl, rfl⟩ ⟨Nat.le_of_ble_eq_true rfl, Nat.le_of_ble_eq_true rfl⟩ rfl hl.1 rfl (Nat.le_of_ble_eq_true rfl) ⟨Nat.zero_le _, Nat.zero_le _⟩ hS (fun _ _ h => h) (fun _ h => h) dX1_all_26 (fun r9 w2 H locs hp hX hz hk hS => ?_)
      have hr9 := hp
      subst hr9
      refine lv_i2l hx hb dX1_all_29 rfl ?_
      refine lv_lmul hx hb dX1_all_30 ?_
      refine va_mmin_long hx hb (hml.trans hl.1.symm) hown (hts _ kl_RX1_99) (hts _ ks_LM_min_long_x) (hts _ kn_Math) (hts _ kd_LM_min_long_x) (Nat.le_of_ble_eq_true rfl) (Nat.le_of_ble_eq_true rfl) (Nat.zero_le _) (Nat.zero_le _) dX1_all_31 ?_
      refine topL (show (if ((wys v st mk j) * (Int32.toInt64 (rdn v st j))) < 1000000000 then ((wys v st mk j) * (Int32.toInt64 (rdn v st j))) else 1000000000) = wys v st mk (j + 1) from wys_t' c17b) ?_
      refine lv_lstore_n (lv' := [(1, .long (wys v st mk (j + 1))), (0, .ref (q 0)), (3, .int (nI j))]) hx hb dX1_all_34 rfl hl (by decide) rfl (fun ls hl => ?_)
      refine lv_iinc (v := (nI (j + 1))) (lv' := [(3, .int (nI (j + 1))), (1, .long (wys v st mk (j + 1))), (0, .ref (q 0))]) hx hb dX1_all_35 hl (k := 2) rfl (nI_1 _) (by decide) rfl (fun ls hl => ?_)
      refine lv_goto (tgt := 4) hx hb dX1_all_38 (by decide) ?_
      exact ih (j + 1) w2 ls H locs (by omega) ⟨by omega, hX, hS, by exact lv_sub hl [2, 1, 0] rfl⟩
set_option maxHeartbeats 4000000 in
set_option maxRecDepth 100000 in
theorem mX1_openBy (hok : Ok N st v) (by1 : Int32) : Met l yX1_openBy (wm yX1_openBy cX1_openBy 4 (some .int)) ({ frames := 4, cells := 0, slots := 0, locals := 87 } : Room) (va_Pc [.ref (q 0), .int by1] (fun U => M0 D cyI cyZ q th (nI N) st md v w U U.heap)) (va_Qi (fun (r : Int32) (u : Nat → Nat → Int32) => r = unm v (v 3) by1 N) (fun u U => (fun (u : Nat → Nat → Int32) => (M0 D cyI cyZ q th (nI N) st md v u : State → Heap → Prop)) u U U.heap) (own 8 q)) 0 0 (own 8 q) := by
  refine mt (by decide) (Nat.le_of_ble_eq_true rfl) ?_
  intro p ev s m below meth c ls hF hr hlocks hnm hX hl
  have hF : CallFix p m c cX1_openBy 4 s _ wA RX1 := hF
  obtain ⟨hx, hb, hml, hown, hts⟩ := id hF
  have hX : M0 D cyI cyZ q th (nI N) st md v w s s.heap := hX
  have hl : lv_has ls 4 [(0, .ref (q 0)), (1, .int by1)] := hl
  have hS : va_S (own 8 q) s.heap s.heap [] := va_S.rf
  have hN := hok.1
  refine lv_aload_n hx hb dX1_openBy_0 rfl (lv_at hl 0 rfl) ?_
  refine lv_iload_n hx hb dX1_openBy_1 rfl (lv_at hl 1 rfl) ?_
  refine wVv (mc := 0) (ms := 0) (As := [.int by1]) (rest := []) hF (mX1_sing hok by1) M0.mv (fun _ => M0.mv) hX (M0.rc hX) jyX1_sing kl_RX1_68 ⟨rfl, rfl⟩ ⟨Nat.le_of_ble_eq_true rfl, Nat.le_of_ble_eq_true rfl⟩ rfl hl.1 rfl (Nat.le_of_ble_eq_true rfl) ⟨Nat.zero_le _, Nat.zero_le _⟩ hS (fun _ _ h => h) (fun _ h => h) dX1_openBy_2 (fun w1 H locs hp hX hz hk hS => ?_)
  have hsg := hp
  refine lv_iconst (v := 0) hx hb dX1_openBy_5 (by decide) ?_
  refine lv_istore_n (lv' := [(2, .int 0), (0, .ref (q 0)), (1, .int by1)]) hx hb dX1_openBy_6 rfl hl (by decide) rfl (fun ls hl => ?_)
  refine lv_iconst (v := 0) hx hb dX1_openBy_7 (by decide) ?_
  refine lv_istore_n (lv' := [(3, .int 0), (2, .int 0), (0, .ref (q 0)), (1, .int by1)]) hx hb dX1_openBy_8 rfl hl (by decide) rfl (fun ls hl => ?_)
  refine lpW (σ := Nat) (fun j ls => (j ≤ N) ∧ lv_has ls 4 [(0, .ref (q 0)), (1, .int by1), (2, .int (ctB (umP v (v 3) by1) j)), (3, .int (nI j))]) (fun j => N - j) (fun j ls hI ih => ?_) (0) ⟨Nat.zero_le _, lv_sub hl [2, 3, 1, 0] rfl⟩
  obtain ⟨hj, hl⟩ := hI
  refine lv_iload_n hx hb dX1_openBy_9 rfl (lv_at hl 3 rfl) ?_
  refine lv_aload_n hx hb dX1_openBy_10 rfl (lv_at hl 0 rfl) ?_
  refine M0.get hF hX 1 (by decide) rfl rfl kf_RX1_38 dX1_openBy_11 ?_
  refine lv_icmp_ge (tgt := 41) hx hb dX1_openBy_14 (by decide) (fun c14 => ?_) (fun c14 => ?_)
  · have c14n : N ≤ j := (nI_leI (a := N) (b := j) (by omega) (by omega)).mp c14
    obtain rfl : j = N := by omega
    refine lv_iload_n hx hb dX1_openBy_41 rfl (lv_at hl 2 rfl) ?_
    exact W.iret hx hb hr (fun t ht hW => ⟨⟨_, w1, rfl, rfl, wEnd M0.mv hX ht hW⟩, hS.F ht⟩) hS.2.2 dX1_openBy_42
  · have c14n : ¬ N ≤ j := fun h9 => c14 ((nI_leI (a := N) (b := j) (by omega) (by omega)).mpr h9)
    refine lv_iload_n hx hb dX1_openBy_17 rfl (lv_at hl 2 rfl) ?_
    refine lv_aload_n hx hb dX1_openBy_18 rfl (lv_at hl 0 rfl) ?_
    refine lv_iload_n hx hb dX1_openBy_19 rfl (lv_at hl 3 rfl) ?_
    refine lv_iload_n hx hb dX1_openBy_20 rfl (lv_at hl 1 rfl) ?_
    refine cVi (As := [.int (nI j), .int by1]) (rest := [.int (ctB (umP v (v 3) by1) j)]) hF (mX1_many hok by1 hsg j (by omega)) M0.mv hX (M0.rc hX) jyX1_many kl_RX1_82 ⟨rfl, rfl⟩ ⟨Nat.le_of_ble_eq_true rfl, Nat.le_of_ble_eq_true rfl⟩ rfl hl.1 rfl (Nat.le_of_ble_eq_true rfl) ⟨Nat.zero_le _, Nat.zero_le _⟩ dX1_openBy_21 (fun r hr9 => ?_)
    subst hr9
    refine lv_iconst (v := 1) hx hb dX1_openBy_24 (by decide) ?_
    refine lv_icmp_le (tgt := 32) hx hb dX1_openBy_25 (by decide) (fun c25 => ?_) (fun c25 => ?_)
    · refine lv_iconst (v := 0) hx hb dX1_openBy_32 (by decide) ?_
      refine lv_iadd hx hb dX1_openBy_33 ?_
      refine topI (show ((ctB (umP v (v 3) by1) j) + 0) = ctB (umP v (v 3) by1) (j + 1) from ctB_f' (um_0 c25)) ?_
      refine lv_istore_n (lv' := [(2, .int (ctB (umP v (v 3) by1) (j + 1))), (0, .ref (q 0)), (1, .int by1), (3, .int (nI j))]) hx hb dX1_openBy_34 rfl hl (by decide) rfl (fun ls hl => ?_)
      refine lv_iinc (v := (nI (j + 1))) (lv' := [(3, .int (nI (j + 1))), (2, .int (ctB (umP v (v 3) by1) (j + 1))), (0, .ref (q 0)), (1, .int by1)]) hx hb dX1_openBy_35 hl (k := 3) rfl (nI_1 _) (by decide) rfl (fun ls hl => ?_)
      refine lv_goto (tgt := 9) hx hb dX1_openBy_38 (by decide) ?_
      exact ih (j + 1) ls (by omega) ⟨by omega, by exact lv_sub hl [2, 3, 1, 0] rfl⟩
    · refine lv_iconst (v := 1) hx hb dX1_openBy_28 (by decide) ?_
      refine lv_goto (tgt := 33) hx hb dX1_openBy_29 (by decide) ?_
      refine lv_iadd hx hb dX1_openBy_33 ?_
      refine topI (show ((ctB (umP v (v 3) by1) j) + 1) = ctB (umP v (v 3) by1) (j + 1) from ctB_t' (um_1 c25)) ?_
      refine lv_istore_n (lv' := [(2, .int (ctB (umP v (v 3) by1) (j + 1))), (0, .ref (q 0)), (1, .int by1), (3, .int (nI j))]) hx hb dX1_openBy_34 rfl hl (by decide) rfl (fun ls hl => ?_)
      refine lv_iinc (v := (nI (j + 1))) (lv' := [(3, .int (nI (j + 1))), (2, .int (ctB (umP v (v 3) by1) (j + 1))), (0, .ref (q 0)), (1, .int by1)]) hx hb dX1_openBy_35 hl (k := 3) rfl (nI_1 _) (by decide) rfl (fun ls hl => ?_)
      refine lv_goto (tgt := 9) hx hb dX1_openBy_38 (by decide) ?_
      exact ih (j + 1) ls (by omega) ⟨by omega, by exact lv_sub hl [2, 3, 1, 0] rfl⟩
set_option maxHeartbeats 4000000 in
set_option maxRecDepth 100000 in
theorem mX1_openWith (hok : Ok N st v) (i : Nat) (x : Int32) (hi : i < 10) : Met l yX1_openWith (wm yX1_openWith cX1_openWith 5 (some .int)) ({ frames := 5, cells := 0, slots := 0, locals := 110 } : Room) (va_Pc [.ref (q 0), .int (nI i), .int x] (fun U => M0 D cyI cyZ q th (nI N) st md v w U U.heap)) (va_Qi (fun (r : Int32) (u : Nat → Nat → Int32) => r = unW v st N i x) (fun u U => (fun (u : Nat → Nat → Int32) => (M0 D cyI cyZ q th (nI N) st md v u : State → Heap → Prop)) u U U.heap) (own 8 q)) 0 0 (own 8 q) := by
  refine mt (by decide) (Nat.le_of_ble_eq_true rfl) ?_
  intro p ev s m below meth c ls hF hr hlocks hnm hX hl
  have hF : CallFix p m c cX1_openWith 5 s _ wA RX1 := hF
  obtain ⟨hx, hb, hml, hown, hts⟩ := id hF
  have hX : M0 D cyI cyZ q th (nI N) st md v w s s.heap := hX
  have hl : lv_has ls 5 [(0, .ref (q 0)), (1, .int (nI i)), (2, .int x)] := hl
  have hS : va_S (own 8 q) s.heap s.heap [] := va_S.rf
  have hN := hok.1
  refine lv_aload_n hx hb dX1_openWith_0 rfl (lv_at hl 0 rfl) ?_
  refine M0.get hF hX 6 (by decide) rfl rfl kf_RX1_23 dX1_openWith_1 ?_
  refine lv_iload_n hx hb dX1_openWith_4 rfl (lv_at hl 1 rfl) ?_
  refine aldI hF hX.2.1 hX.1 4 0 rfl rfl i (by omega) (by decide) rfl dX1_openWith_5 ?_
  refine lv_istore_n (lv' := [(3, .int (v 3 i)), (0, .ref (q 0)), (1, .int (nI i)), (2, .int x)]) hx hb dX1_openWith_6 rfl hl (by decide) rfl (fun ls hl => ?_)
  refine lv_aload_n hx hb dX1_openWith_7 rfl (lv_at hl 1 rfl) ?_
  refine M0.get hF hX 6 (by decide) rfl rfl kf_RX1_23 dX1_openWith_8 ?_
  refine lv_iload_n hx hb dX1_openWith_11 rfl (lv_at hl 2 rfl) ?_
  refine lv_iload_n hx hb dX1_openWith_12 rfl (lv_at hl 3 rfl) ?_
  refine M0.st_v3 hF hX hS i (by omega) rfl dX1_openWith_13 (fun H locs hX hS => ?_)
  refine lv_aload_n hx hb dX1_openWith_14 rfl (lv_at hl 1 rfl) ?_
  refine lv_aload_n hx hb dX1_openWith_15 rfl (lv_at hl 1 rfl) ?_
  refine M0.get hF hX 2 (by decide) rfl rfl kf_RX1_7 dX1_openWith_16 ?_
  refine wVi (mc := 0) (ms := 0) (As := [.int st]) (rest := []) hF (mX1_openBy (show Ok N st (va_up v 3 (upd (v 3) i x)) from ⟨hok.1, hok.2.1, hok.2.2⟩) st) M0.mv (fun _ => M0.mv) hX (M0.rc hX) jyX1_openBy kl_RX1_103 ⟨rfl, rfl⟩ ⟨Nat.le_of_ble_eq_true rfl, Nat.le_of_ble_eq_true rfl⟩ rfl hl.1 rfl (Nat.le_of_ble_eq_true rfl) ⟨Nat.zero_le _, Nat.zero_le _⟩ hS (fun _ _ h => h) (fun _ h => h) dX1_openWith_19 (fun r9 w1 H locs hp hX hz hk hS => ?_)
  have hr9 := hp
  subst hr9
  refine lv_istore (lv' := [(4, .int (unW v st N i x)), (3, .int (v 3 i)), (0, .ref (q 0)), (1, .int (nI i)), (2, .int x)]) hx hb dX1_openWith_22 hl (by decide) rfl (fun ls hl => ?_)
  refine lv_aload_n hx hb dX1_openWith_24 rfl (lv_at hl 2 rfl) ?_
  refine M0.get hF hX 6 (by decide) rfl rfl kf_RX1_23 dX1_openWith_25 ?_
  refine lv_iload_n hx hb dX1_openWith_28 rfl (lv_at hl 3 rfl) ?_
  refine lv_iload_n hx hb dX1_openWith_29 rfl (lv_at hl 1 rfl) ?_
  refine M0.st_v3 hF hX hS i (by omega) rfl dX1_openWith_30 (fun H locs hX hS => ?_)
  rw [upd_back] at hX
  refine lv_iload hx hb dX1_openWith_31 (lv_at hl 0 rfl) ?_
  exact W.iret hx hb hr (fun t ht hW => ⟨⟨_, w1, rfl, rfl, wEnd M0.mv hX ht hW⟩, hS.F ht⟩) hS.2.2 dX1_openWith_33
set_option maxHeartbeats 4000000 in
set_option maxRecDepth 100000 in
theorem mX1_wordFor (hok : Ok N st v) (i : Nat) (hi : i < 10) : Met l yX1_wordFor (wm yX1_wordFor cX1_wordFor 4 (some .int)) ({ frames := 6, cells := 0, slots := 0, locals := 134 } : Room) (va_Pc [.ref (q 0), .int (nI i)] (fun U => M0 D cyI cyZ q th (nI N) st md v w U U.heap)) (va_Qi (fun (r : Int32) (u : Nat → Nat → Int32) => r = nI (bwd v st N i)) (fun u U => (fun (u : Nat → Nat → Int32) => (M0 D cyI cyZ q th (nI N) st md v u : State → Heap → Prop)) u U U.heap) (own 8 q)) 0 0 (own 8 q) := by
  refine mt (by decide) (Nat.le_of_ble_eq_true rfl) ?_
  intro p ev s m below meth c ls hF hr hlocks hnm hX hl
  have hF : CallFix p m c cX1_wordFor 4 s _ wA RX1 := hF
  obtain ⟨hx, hb, hml, hown, hts⟩ := id hF
  have hX : M0 D cyI cyZ q th (nI N) st md v w s s.heap := hX
  have hl : lv_has ls 4 [(0, .ref (q 0)), (1, .int (nI i))] := hl
  have hS : va_S (own 8 q) s.heap s.heap [] := va_S.rf
  have hN := hok.1
  refine lv_iconst (v := (nI 0)) hx hb dX1_wordFor_0 (by decide) ?_
  refine lv_istore_n (lv' := [(2, .int (nI 0)), (0, .ref (q 0)), (1, .int (nI i))]) hx hb dX1_wordFor_1 rfl hl (by decide) rfl (fun ls hl => ?_)
  refine lv_iconst (v := (nI 1)) hx hb dX1_wordFor_2 (by decide) ?_
  refine lv_istore_n (lv' := [(3, .int (nI 1)), (2, .int (nI 0)), (0, .ref (q 0)), (1, .int (nI i))]) hx hb dX1_wordFor_3 rfl hl (by decide) rfl (fun ls hl => ?_)
  refine lpH2 (σ := Nat) (τ := Nat → Nat → Int32) (fun j w ls H locs => (j ≤ 9) ∧ M0 D cyI cyZ q th (nI N) st md v w s H ∧ va_S (own 8 q) s.heap H locs ∧ lv_has ls 4 [(0, .ref (q 0)), (1, .int (nI i)), (2, .int (nI (amin (fun x => unW v st N i (nI x)) j))), (3, .int (nI (j + 1)))]) (fun j w => 9 - j) (fun j w ls H locs hI ih => ?_) (0) w ⟨Nat.zero_le _, hX, hS, lv_sub hl [2, 3, 1, 0] rfl⟩
  obtain ⟨hj, hX, hS, hl⟩ := hI
  refine lv_iload_n hx hb dX1_wordFor_4 rfl (lv_at hl 3 rfl) ?_
  refine lv_bipush (v := 10) hx hb dX1_wordFor_5 (by decide) ?_
  refine lv_icmp_ge (tgt := 33) hx hb dX1_wordFor_7 (by decide) (fun c7 => ?_) (fun c7 => ?_)
  · have c7n : 10 ≤ (j + 1) := (nI_leI (a := 10) (b := (j + 1)) (by omega) (by omega)).mp c7
    obtain rfl : j = 9 := by omega
    refine lv_iload_n hx hb dX1_wordFor_33 rfl (lv_at hl 2 rfl) ?_
    exact W.iret hx hb hr (fun t ht hW => ⟨⟨_, w, rfl, rfl, wEnd M0.mv hX ht hW⟩, hS.F ht⟩) hS.2.2 dX1_wordFor_34
  · have c7n : ¬ 10 ≤ (j + 1) := fun h9 => c7 ((nI_leI (a := 10) (b := (j + 1)) (by omega) (by omega)).mpr h9)
    refine lv_aload_n hx hb dX1_wordFor_10 rfl (lv_at hl 0 rfl) ?_
    refine lv_iload_n hx hb dX1_wordFor_11 rfl (lv_at hl 1 rfl) ?_
    refine lv_iload_n hx hb dX1_wordFor_12 rfl (lv_at hl 3 rfl) ?_
    refine wVi (mc := 0) (ms := 0) (As := [.int (nI i), .int (nI (j + 1))]) (rest := []) hF (mX1_openWith hok i (nI (j + 1)) (by omega)) M0.mv (fun _ => M0.mv) hX (M0.rc hX) jyX1_openWith kl_RX1_106 ⟨rfl, rfl⟩ ⟨Nat.le_of_ble_eq_true rfl, Nat.le_of_ble_eq_true rfl⟩ rfl hl.1 rfl (Nat.le_of_ble_eq_true rfl) ⟨Nat.zero_le _, Nat.zero_le _⟩ hS (fun _ _ h => h) (fun _ h => h) dX1_wordFor_13 (fun r9 w1 H locs hp hX hz hk hS => ?_)
    have hr9 := hp
    subst hr9
    refine lv_aload_n hx hb dX1_wordFor_16 rfl (lv_at hl 0 rfl) ?_
    refine lv_iload_n hx hb dX1_wordFor_17 rfl (lv_at hl 1 rfl) ?_
    refine lv_iload_n hx hb dX1_wordFor_18 rfl (lv_at hl 2 rfl) ?_
    refine wVi (mc := 0) (ms := 0) (As := [.int (nI i), .int (nI (amin (fun x => unW v st N i (nI x)) j))]) (rest := [.int (unW v st N i (nI (j + 1)))]) hF (mX1_openWith hok i (nI (amin (fun x => unW v st N i (nI x)) j)) (by omega)) M0.mv (fun _ => M0.mv) hX (M0.rc hX) jyX1_openWith kl_RX1_106 ⟨rfl, rfl⟩ ⟨Nat.le_of_ble_eq_true rfl, Nat.le_of_ble_eq_true rfl⟩ rfl hl.1 rfl (Nat.le_of_ble_eq_true rfl) ⟨Nat.zero_le _, Nat.zero_le _⟩ hS (fun _ _ h => h) (fun _ h => h) dX1_wordFor_19 (fun r9 w2 H locs hp hX hz hk hS => ?_)
    have hr9 := hp
    subst hr9
    refine lv_icmp_ge (tgt := 27) hx hb dX1_wordFor_22 (by decide) (fun c22 => ?_) (fun c22 => ?_)
    · refine lv_iinc (v := (nI (j + 1 + 1))) (lv' := [(3, .int (nI (j + 1 + 1))), (0, .ref (q 0)), (1, .int (nI i)), (2, .int (nI (amin (fun x => unW v st N i (nI x)) j)))]) hx hb dX1_wordFor_27 hl (k := 3) rfl (nI_1 _) (by decide) rfl (fun ls hl => ?_)
      refine lv_goto (tgt := 4) hx hb dX1_wordFor_30 (by decide) ?_
      exact ih (j + 1) w2 ls H locs (by omega) ⟨by omega, hX, hS, by rw [amin_f (f := (fun x => unW v st N i (nI x))) (k := j) (Int32.not_lt.mpr c22)]; exact lv_sub hl [1, 2, 3, 0] rfl⟩
    · refine lv_iload_n hx hb dX1_wordFor_25 rfl (lv_at hl 3 rfl) ?_
      refine lv_istore_n (lv' := [(2, .int (nI (j + 1))), (0, .ref (q 0)), (1, .int (nI i)), (3, .int (nI (j + 1)))]) hx hb dX1_wordFor_26 rfl hl (by decide) rfl (fun ls hl => ?_)
      refine lv_iinc (v := (nI (j + 1 + 1))) (lv' := [(3, .int (nI (j + 1 + 1))), (2, .int (nI (j + 1))), (0, .ref (q 0)), (1, .int (nI i))]) hx hb dX1_wordFor_27 hl (k := 3) rfl (nI_1 _) (by decide) rfl (fun ls hl => ?_)
      refine lv_goto (tgt := 4) hx hb dX1_wordFor_30 (by decide) ?_
      exact ih (j + 1) w2 ls H locs (by omega) ⟨by omega, hX, hS, by rw [amin_t (f := (fun x => unW v st N i (nI x))) (k := j) (Int32.not_le.mp c22)]; exact lv_sub hl [2, 3, 1, 0] rfl⟩
set_option maxHeartbeats 4000000 in
set_option maxRecDepth 100000 in
theorem mX1_stepFor (hok : Ok N st v) : Met l yX1_stepFor (wm yX1_stepFor cX1_stepFor 3 (some .int)) ({ frames := 5, cells := 0, slots := 0, locals := 110 } : Room) (va_Pc [.ref (q 0)] (fun U => M0 D cyI cyZ q th (nI N) st md v w U U.heap)) (va_Qi (fun (r : Int32) (u : Nat → Nat → Int32) => r = nI (bst v N)) (fun u U => (fun (u : Nat → Nat → Int32) => (M0 D cyI cyZ q th (nI N) st md v u : State → Heap → Prop)) u U U.heap) (own 8 q)) 0 0 (own 8 q) := by
  refine mt (by decide) (Nat.le_of_ble_eq_true rfl) ?_
  intro p ev s m below meth c ls hF hr hlocks hnm hX hl
  have hF : CallFix p m c cX1_stepFor 3 s _ wA RX1 := hF
  obtain ⟨hx, hb, hml, hown, hts⟩ := id hF
  have hX : M0 D cyI cyZ q th (nI N) st md v w s s.heap := hX
  have hl : lv_has ls 3 [(0, .ref (q 0))] := hl
  have hS : va_S (own 8 q) s.heap s.heap [] := va_S.rf
  have hN := hok.1
  refine lv_iconst (v := (nI (0 + 1))) hx hb dX1_stepFor_0 (by decide) ?_
  refine lv_istore_n (lv' := [(1, .int (nI (0 + 1))), (0, .ref (q 0))]) hx hb dX1_stepFor_1 rfl hl (by decide) rfl (fun ls hl => ?_)
  refine lv_iconst (v := (nI (0 + 2))) hx hb dX1_stepFor_2 (by decide) ?_
  refine lv_istore_n (lv' := [(2, .int (nI (0 + 2))), (1, .int (nI (0 + 1))), (0, .ref (q 0))]) hx hb dX1_stepFor_3 rfl hl (by decide) rfl (fun ls hl => ?_)
  refine lpH2 (σ := Nat) (τ := Nat → Nat → Int32) (fun j w ls H locs => (j ≤ 3) ∧ M0 D cyI cyZ q th (nI N) st md v w s H ∧ va_S (own 8 q) s.heap H locs ∧ lv_has ls 3 [(0, .ref (q 0)), (1, .int (nI (amin (fun x => unm v (v 3) (nI (x + 1)) N) j + 1))), (2, .int (nI (j + 2)))]) (fun j w => 3 - j) (fun j w ls H locs hI ih => ?_) (0) w ⟨Nat.zero_le _, hX, hS, lv_sub hl [2, 1, 0] rfl⟩
  obtain ⟨hj, hX, hS, hl⟩ := hI
  refine lv_iload_n hx hb dX1_stepFor_4 rfl (lv_at hl 2 rfl) ?_
  refine lv_iconst (v := 4) hx hb dX1_stepFor_5 (by decide) ?_
  refine lv_icmp_gt (tgt := 30) hx hb dX1_stepFor_6 (by decide) (fun c6 => ?_) (fun c6 => ?_)
  · have c6n : 4 < (j + 2) := (nI_ltI (a := 4) (b := (j + 2)) (by omega) (by omega)).mp c6
    obtain rfl : j = 3 := by omega
    refine lv_iload_n hx hb dX1_stepFor_30 rfl (lv_at hl 1 rfl) ?_
    exact W.iret hx hb hr (fun t ht hW => ⟨⟨_, w, rfl, rfl, wEnd M0.mv hX ht hW⟩, hS.F ht⟩) hS.2.2 dX1_stepFor_31
  · have c6n : ¬ 4 < (j + 2) := fun h9 => c6 ((nI_ltI (a := 4) (b := (j + 2)) (by omega) (by omega)).mpr h9)
    refine lv_aload_n hx hb dX1_stepFor_9 rfl (lv_at hl 0 rfl) ?_
    refine lv_iload_n hx hb dX1_stepFor_10 rfl (lv_at hl 2 rfl) ?_
    refine wVi (mc := 0) (ms := 0) (As := [.int (nI (j + 2))]) (rest := []) hF (mX1_openBy hok (nI (j + 2))) M0.mv (fun _ => M0.mv) hX (M0.rc hX) jyX1_openBy kl_RX1_103 ⟨rfl, rfl⟩ ⟨Nat.le_of_ble_eq_true rfl, Nat.le_of_ble_eq_true rfl⟩ rfl hl.1 rfl (Nat.le_of_ble_eq_true rfl) ⟨Nat.zero_le _, Nat.zero_le _⟩ hS (fun _ _ h => h) (fun _ h => h) dX1_stepFor_11 (fun r9 w1 H locs hp hX hz hk hS => ?_)
    have hr9 := hp
    subst hr9
    refine lv_aload_n hx hb dX1_stepFor_14 rfl (lv_at hl 0 rfl) ?_
    refine lv_iload_n hx hb dX1_stepFor_15 rfl (lv_at hl 1 rfl) ?_
    refine wVi (mc := 0) (ms := 0) (As := [.int (nI (amin (fun x => unm v (v 3) (nI (x + 1)) N) j + 1))]) (rest := [.int (unm v (v 3) (nI (j + 2)) N)]) hF (mX1_openBy hok (nI (amin (fun x => unm v (v 3) (nI (x + 1)) N) j + 1))) M0.mv (fun _ => M0.mv) hX (M0.rc hX) jyX1_openBy kl_RX1_103 ⟨rfl, rfl⟩ ⟨Nat.le_of_ble_eq_true rfl, Nat.le_of_ble_eq_true rfl⟩ rfl hl.1 rfl (Nat.le_of_ble_eq_true rfl) ⟨Nat.zero_le _, Nat.zero_le _⟩ hS (fun _ _ h => h) (fun _ h => h) dX1_stepFor_16 (fun r9 w2 H locs hp hX hz hk hS => ?_)
    have hr9 := hp
    subst hr9
    refine lv_icmp_ge (tgt := 24) hx hb dX1_stepFor_19 (by decide) (fun c19 => ?_) (fun c19 => ?_)
    · refine lv_iinc (v := (nI (j + 2 + 1))) (lv' := [(2, .int (nI (j + 2 + 1))), (0, .ref (q 0)), (1, .int (nI (amin (fun x => unm v (v 3) (nI (x + 1)) N) j + 1)))]) hx hb dX1_stepFor_24 hl (k := 2) rfl (nI_1 _) (by decide) rfl (fun ls hl => ?_)
      refine lv_goto (tgt := 4) hx hb dX1_stepFor_27 (by decide) ?_
      exact ih (j + 1) w2 ls H locs (by omega) ⟨by omega, hX, hS, by rw [amin_f (f := (fun x => unm v (v 3) (nI (x + 1)) N)) (k := j) (Int32.not_lt.mpr c19)]; exact lv_sub hl [1, 2, 0] rfl⟩
    · refine lv_iload_n hx hb dX1_stepFor_22 rfl (lv_at hl 2 rfl) ?_
      refine lv_istore_n (lv' := [(1, .int (nI (j + 2))), (0, .ref (q 0)), (2, .int (nI (j + 2)))]) hx hb dX1_stepFor_23 rfl hl (by decide) rfl (fun ls hl => ?_)
      refine lv_iinc (v := (nI (j + 2 + 1))) (lv' := [(2, .int (nI (j + 2 + 1))), (1, .int (nI (j + 2))), (0, .ref (q 0))]) hx hb dX1_stepFor_24 hl (k := 2) rfl (nI_1 _) (by decide) rfl (fun ls hl => ?_)
      refine lv_goto (tgt := 4) hx hb dX1_stepFor_27 (by decide) ?_
      exact ih (j + 1) w2 ls H locs (by omega) ⟨by omega, hX, hS, by rw [amin_t (f := (fun x => unm v (v 3) (nI (x + 1)) N)) (k := j) (Int32.not_le.mp c19)]; exact lv_sub hl [2, 1, 0] rfl⟩
set_option maxHeartbeats 4000000 in
set_option maxRecDepth 100000 in
theorem mX1_allBeats (hok : Ok N st v) : Met l yX1_allBeats (wm yX1_allBeats cX1_allBeats 3 (some .int)) ({ frames := 0, cells := 0, slots := 0, locals := 0 } : Room) (va_Pc [.ref (q 0)] (fun U => M0 D cyI cyZ q th (nI N) st md v w U U.heap)) (vp_Si (fun r => r = sumI (v 1) N)) 0 0 (fun _ => False) := by
  refine mt (by decide) (Nat.le_of_ble_eq_true rfl) ?_
  intro p ev s m below meth c ls hF hr hlocks hnm hX hl
  have hF : CallFix p m c cX1_allBeats 3 s _ wA RX1 := hF
  obtain ⟨hx, hb, hml, hown, hts⟩ := id hF
  have hX : M0 D cyI cyZ q th (nI N) st md v w s s.heap := hX
  have hl : lv_has ls 3 [(0, .ref (q 0))] := hl
  have hN := hok.1
  refine lv_iconst (v := 0) hx hb dX1_allBeats_0 (by decide) ?_
  refine lv_istore_n (lv' := [(1, .int 0), (0, .ref (q 0))]) hx hb dX1_allBeats_1 rfl hl (by decide) rfl (fun ls hl => ?_)
  refine lv_iconst (v := 0) hx hb dX1_allBeats_2 (by decide) ?_
  refine lv_istore_n (lv' := [(2, .int 0), (1, .int 0), (0, .ref (q 0))]) hx hb dX1_allBeats_3 rfl hl (by decide) rfl (fun ls hl => ?_)
  refine lpW (σ := Nat) (fun j ls => (j ≤ N) ∧ lv_has ls 3 [(0, .ref (q 0)), (1, .int (sumI (v 1) j)), (2, .int (nI j))]) (fun j => N - j) (fun j ls hI ih => ?_) (0) ⟨by omega, lv_sub hl [2, 1, 0] rfl⟩
  obtain ⟨hj, hl⟩ := hI
  refine lv_iload_n hx hb dX1_allBeats_4 rfl (lv_at hl 2 rfl) ?_
  refine lv_aload_n hx hb dX1_allBeats_5 rfl (lv_at hl 0 rfl) ?_
  refine M0.get hF hX 1 (by decide) rfl rfl kf_RX1_38 dX1_allBeats_6 ?_
  refine lv_icmp_ge (tgt := 27) hx hb dX1_allBeats_9 (by decide) (fun c9 => ?_) (fun c9 => ?_)
  · have c9n : N ≤ j := (nI_leI (a := N) (b := j) (by omega) (by omega)).mp c9
    obtain rfl : j = N := by omega
    refine lv_iload_n hx hb dX1_allBeats_27 rfl (lv_at hl 1 rfl) ?_
    exact W.iret hx hb hr (fun t ht hW => ⟨_, rfl, rfl, ht⟩) (fun q hq => absurd hq List.not_mem_nil) dX1_allBeats_28
  · have c9n : ¬ N ≤ j := fun h9 => c9 ((nI_leI (a := N) (b := j) (by omega) (by omega)).mpr h9)
    refine lv_iload_n hx hb dX1_allBeats_12 rfl (lv_at hl 1 rfl) ?_
    refine lv_aload_n hx hb dX1_allBeats_13 rfl (lv_at hl 0 rfl) ?_
    refine M0.get hF hX 4 (by decide) rfl rfl kf_RX1_17 dX1_allBeats_14 ?_
    refine lv_iload_n hx hb dX1_allBeats_17 rfl (lv_at hl 2 rfl) ?_
    refine aldI hF hX.2.1 hX.1 2 0 rfl rfl j (by omega) (by decide) rfl dX1_allBeats_18 ?_
    refine lv_iadd hx hb dX1_allBeats_19 ?_
    refine lv_istore_n (lv' := [(1, .int ((sumI (v 1) j) + (v 1 j))), (0, .ref (q 0)), (2, .int (nI j))]) hx hb dX1_allBeats_20 rfl hl (by decide) rfl (fun ls hl => ?_)
    refine lv_iinc (v := (nI (j + 1))) (lv' := [(2, .int (nI (j + 1))), (1, .int ((sumI (v 1) j) + (v 1 j))), (0, .ref (q 0))]) hx hb dX1_allBeats_21 hl (k := 2) rfl (nI_1 _) (by decide) rfl (fun ls hl => ?_)
    refine lv_goto (tgt := 4) hx hb dX1_allBeats_24 (by decide) ?_
    exact ih (j + 1) ls (by omega) ⟨by omega, by exact lv_sub hl [2, 1, 0] rfl⟩
set_option maxHeartbeats 4000000 in
set_option maxRecDepth 100000 in
theorem mX1_wide (hok : Ok N st v) : Met l yX1_wide (wm yX1_wide cX1_wide 4 (some .int)) ({ frames := 3, cells := 0, slots := 0, locals := 65 } : Room) (va_Pc [.ref (q 0)] (fun U => M0 D cyI cyZ q th (nI N) st md v w U U.heap)) (va_Qi (fun (r : Int32) (u : Nat → Nat → Int32) => r = rng v st N) (fun u U => (fun (u : Nat → Nat → Int32) => (M0 D cyI cyZ q th (nI N) st md v u : State → Heap → Prop)) u U U.heap) (own 8 q)) 0 0 (own 8 q) := by
  refine mt (by decide) (Nat.le_of_ble_eq_true rfl) ?_
  intro p ev s m below meth c ls hF hr hlocks hnm hX hl
  have hF : CallFix p m c cX1_wide 4 s _ wA RX1 := hF
  obtain ⟨hx, hb, hml, hown, hts⟩ := id hF
  have hX : M0 D cyI cyZ q th (nI N) st md v w s s.heap := hX
  have hl : lv_has ls 4 [(0, .ref (q 0))] := hl
  have hS : va_S (own 8 q) s.heap s.heap [] := va_S.rf
  have hN := hok.1
  refine lv_aload_n hx hb dX1_wide_0 rfl (lv_at hl 0 rfl) ?_
  refine lv_aload_n hx hb dX1_wide_1 rfl (lv_at hl 0 rfl) ?_
  refine M0.get hF hX 2 (by decide) rfl rfl kf_RX1_7 dX1_wide_2 ?_
  refine wVv (mc := 0) (ms := 0) (As := [.int st]) (rest := []) hF (mX1_sing hok st) M0.mv (fun _ => M0.mv) hX (M0.rc hX) jyX1_sing kl_RX1_68 ⟨rfl, rfl⟩ ⟨Nat.le_of_ble_eq_true rfl, Nat.le_of_ble_eq_true rfl⟩ rfl hl.1 rfl (Nat.le_of_ble_eq_true rfl) ⟨Nat.zero_le _, Nat.zero_le _⟩ hS (fun _ _ h => h) (fun _ h => h) dX1_wide_5 (fun w1 H locs hp hX hz hk hS => ?_)
  have hsg := hp
  refine lv_iconst (v := 0) hx hb dX1_wide_8 (by decide) ?_
  refine lv_istore_n (lv' := [(1, .int 0), (0, .ref (q 0))]) hx hb dX1_wide_9 rfl hl (by decide) rfl (fun ls hl => ?_)
  refine lv_bipush (v := 24) hx hb dX1_wide_10 (by decide) ?_
  refine lv_istore_n (lv' := [(2, .int 24), (1, .int 0), (0, .ref (q 0))]) hx hb dX1_wide_12 rfl hl (by decide) rfl (fun ls hl => ?_)
  refine lv_iconst (v := 1) hx hb dX1_wide_13 (by decide) ?_
  refine lv_istore_n (lv' := [(3, .int 1), (2, .int 24), (1, .int 0), (0, .ref (q 0))]) hx hb dX1_wide_14 rfl hl (by decide) rfl (fun ls hl => ?_)
  refine lpW (σ := Nat) (fun j ls => (j ≤ N) ∧ lv_has ls 4 [(0, .ref (q 0)), (1, .int (hi9 (v 0) st j)), (2, .int (lo9 (v 0) st j)), (3, .int (nI (j + 1)))]) (fun j => N - j) (fun j ls hI ih => ?_) (0) ⟨Nat.zero_le _, lv_sub hl [3, 2, 1, 0] rfl⟩
  obtain ⟨hj, hl⟩ := hI
  refine lv_iload_n hx hb dX1_wide_15 rfl (lv_at hl 3 rfl) ?_
  refine lv_aload_n hx hb dX1_wide_16 rfl (lv_at hl 0 rfl) ?_
  refine M0.get hF hX 1 (by decide) rfl rfl kf_RX1_38 dX1_wide_17 ?_
  refine lv_icmp_gt (tgt := 51) hx hb dX1_wide_20 (by decide) (fun c20 => ?_) (fun c20 => ?_)
  · have c20n : N < (j + 1) := (nI_ltI (a := N) (b := (j + 1)) (by omega) (by omega)).mp c20
    have hjN : j = N := by omega
    rw [hjN] at hl
    refine lv_aload_n hx hb dX1_wide_51 rfl (lv_at hl 0 rfl) ?_
    refine M0.get hF hX 1 (by decide) rfl rfl kf_RX1_38 dX1_wide_52 ?_
    refine lv_if_ne (tgt := 62) hx hb dX1_wide_55 (by decide) (fun c55 => ?_) (fun c55 => ?_)
    · have c55n : ¬ N = 0 := fun h9 => c55 ((nI_eq (a := N) (b := 0) (by omega) (by omega)).mpr h9)
      refine lv_iload_n hx hb dX1_wide_62 rfl (lv_at hl 1 rfl) ?_
      refine lv_iload_n hx hb dX1_wide_63 rfl (lv_at hl 2 rfl) ?_
      refine lv_isub hx hb dX1_wide_64 ?_
      exact W.iret hx hb hr (fun t ht hW => ⟨⟨_, w1, rfl, (rng_1 (by omega)), wEnd M0.mv hX ht hW⟩, hS.F ht⟩) hS.2.2 dX1_wide_65
    · have c55n : N = 0 := (nI_eq (a := N) (b := 0) (by omega) (by omega)).mp c55
      refine lv_iconst (v := 0) hx hb dX1_wide_58 (by decide) ?_
      refine lv_goto (tgt := 65) hx hb dX1_wide_59 (by decide) ?_
      exact W.iret hx hb hr (fun t ht hW => ⟨⟨_, w1, rfl, (rng_0 (by omega)), wEnd M0.mv hX ht hW⟩, hS.F ht⟩) hS.2.2 dX1_wide_65
  · have c20n : ¬ N < (j + 1) := fun h9 => c20 ((nI_ltI (a := N) (b := (j + 1)) (by omega) (by omega)).mpr h9)
    refine lv_iload_n hx hb dX1_wide_23 rfl (lv_at hl 1 rfl) ?_
    refine lv_aload_n hx hb dX1_wide_24 rfl (lv_at hl 0 rfl) ?_
    refine M0.get hF hX 8 (by decide) rfl rfl kf_RX1_26 dX1_wide_25 ?_
    refine lv_iload_n hx hb dX1_wide_28 rfl (lv_at hl 3 rfl) ?_
    refine aldI hF hX.2.1 hX.1 5 0 rfl rfl (j + 1) (by omega) (by decide) rfl dX1_wide_29 ?_
    refine topI (show (w1 0 (j + 1)) = nt (v 0) st (j + 1) from hsg (j + 1) (by omega)) ?_
    refine va_mmax hx hb (hml.trans hl.1.symm) hown (hts _ kl_RX1_60) (hts _ ks_LM_max_name) (hts _ kn_Math) (hts _ kd_LM_max_name) (Nat.le_of_ble_eq_true rfl) (Nat.le_of_ble_eq_true rfl) (Nat.zero_le _) (Nat.zero_le _) dX1_wide_30 ?_
    refine lv_istore_n (lv' := [(1, .int (mx (hi9 (v 0) st j) (nt (v 0) st (j + 1)))), (0, .ref (q 0)), (2, .int (lo9 (v 0) st j)), (3, .int (nI (j + 1)))]) hx hb dX1_wide_33 rfl hl (by decide) rfl (fun ls hl => ?_)
    refine lv_iload_n hx hb dX1_wide_34 rfl (lv_at hl 2 rfl) ?_
    refine lv_aload_n hx hb dX1_wide_35 rfl (lv_at hl 1 rfl) ?_
    refine M0.get hF hX 8 (by decide) rfl rfl kf_RX1_26 dX1_wide_36 ?_
    refine lv_iload_n hx hb dX1_wide_39 rfl (lv_at hl 3 rfl) ?_
    refine aldI hF hX.2.1 hX.1 5 0 rfl rfl (j + 1) (by omega) (by decide) rfl dX1_wide_40 ?_
    refine topI (show (w1 0 (j + 1)) = nt (v 0) st (j + 1) from hsg (j + 1) (by omega)) ?_
    refine va_mmin hx hb (hml.trans hl.1.symm) hown (hts _ kl_RX1_144) (hts _ ks_LM_min_name) (hts _ kn_Math) (hts _ kd_LM_min_name) (Nat.le_of_ble_eq_true rfl) (Nat.le_of_ble_eq_true rfl) (Nat.zero_le _) (Nat.zero_le _) dX1_wide_41 ?_
    refine lv_istore_n (lv' := [(2, .int (mn (lo9 (v 0) st j) (nt (v 0) st (j + 1)))), (1, .int (mx (hi9 (v 0) st j) (nt (v 0) st (j + 1)))), (0, .ref (q 0)), (3, .int (nI (j + 1)))]) hx hb dX1_wide_44 rfl hl (by decide) rfl (fun ls hl => ?_)
    refine lv_iinc (v := (nI (j + 1 + 1))) (lv' := [(3, .int (nI (j + 1 + 1))), (2, .int (mn (lo9 (v 0) st j) (nt (v 0) st (j + 1)))), (1, .int (mx (hi9 (v 0) st j) (nt (v 0) st (j + 1)))), (0, .ref (q 0))]) hx hb dX1_wide_45 hl (k := 3) rfl (nI_1 _) (by decide) rfl (fun ls hl => ?_)
    refine lv_goto (tgt := 15) hx hb dX1_wide_48 (by decide) ?_
    exact ih (j + 1) ls (by omega) ⟨by omega, by exact lv_sub hl [3, 2, 1, 0] rfl⟩
set_option maxHeartbeats 4000000 in
set_option maxRecDepth 100000 in
theorem mX1_firstOpen (hok : Ok N st v) (hmk : Mk N mk md) : Met l yX1_firstOpen (wm yX1_firstOpen cX1_firstOpen 2 (some .int)) ({ frames := 6, cells := 0, slots := 0, locals := 129 } : Room) (va_Pc [.ref (q 0)] (fun U => M0 D cyI cyZ q th (nI N) st md v w U U.heap)) (va_Qi (fun (r : Int32) (u : Nat → Nat → Int32) => r = fam v st mk N) (fun u U => (fun (u : Nat → Nat → Int32) => (M0 D cyI cyZ q th (nI N) st md v u : State → Heap → Prop)) u U U.heap) (own 8 q)) 0 0 (own 8 q) := by
  refine mt (by decide) (Nat.le_of_ble_eq_true rfl) ?_
  intro p ev s m below meth c ls hF hr hlocks hnm hX hl
  have hF : CallFix p m c cX1_firstOpen 2 s _ wA RX1 := hF
  obtain ⟨hx, hb, hml, hown, hts⟩ := id hF
  have hX : M0 D cyI cyZ q th (nI N) st md v w s s.heap := hX
  have hl : lv_has ls 2 [(0, .ref (q 0))] := hl
  have hS : va_S (own 8 q) s.heap s.heap [] := va_S.rf
  have hN := hok.1
  refine lv_iconst (v := 0) hx hb dX1_firstOpen_0 (by decide) ?_
  refine lv_istore_n (lv' := [(1, .int 0), (0, .ref (q 0))]) hx hb dX1_firstOpen_1 rfl hl (by decide) rfl (fun ls hl => ?_)
  refine lpH2 (σ := Nat) (τ := Nat → Nat → Int32) (fun j w ls H locs => (j ≤ N ∧ ∀ i, i < j → amb v st mk i = false) ∧ M0 D cyI cyZ q th (nI N) st md v w s H ∧ va_S (own 8 q) s.heap H locs ∧ lv_has ls 2 [(0, .ref (q 0)), (1, .int (nI j))]) (fun j w => N - j) (fun j w ls H locs hI ih => ?_) (0) w ⟨⟨by omega, fun i h => absurd h (Nat.not_lt_zero _)⟩, hX, hS, lv_sub hl [1, 0] rfl⟩
  obtain ⟨hj, hX, hS, hl⟩ := hI
  refine lv_iload_n hx hb dX1_firstOpen_2 rfl (lv_at hl 1 rfl) ?_
  refine lv_aload_n hx hb dX1_firstOpen_3 rfl (lv_at hl 0 rfl) ?_
  refine M0.get hF hX 1 (by decide) rfl rfl kf_RX1_38 dX1_firstOpen_4 ?_
  refine lv_icmp_ge (tgt := 26) hx hb dX1_firstOpen_7 (by decide) (fun c7 => ?_) (fun c7 => ?_)
  · have c7n : N ≤ j := (nI_leI (a := N) (b := j) (by omega) (by omega)).mp c7
    obtain rfl : j = N := by omega
    refine lv_iconst (v := (-1)) hx hb dX1_firstOpen_26 (by decide) ?_
    exact W.iret hx hb hr (fun t ht hW => ⟨⟨_, w, rfl, fam_no hj.2, wEnd M0.mv hX ht hW⟩, hS.F ht⟩) hS.2.2 dX1_firstOpen_27
  · have c7n : ¬ N ≤ j := fun h9 => c7 ((nI_leI (a := N) (b := j) (by omega) (by omega)).mpr h9)
    refine lv_aload_n hx hb dX1_firstOpen_10 rfl (lv_at hl 0 rfl) ?_
    refine lv_iload_n hx hb dX1_firstOpen_11 rfl (lv_at hl 1 rfl) ?_
    refine wVi (mc := 0) (ms := 0) (As := [.int (nI j)]) (rest := []) hF (mX1_isOpen hok hmk j (by omega)) M0.mv (fun _ => M0.mv) hX (M0.rc hX) jyX1_isOpen kl_RX1_94 ⟨rfl, rfl⟩ ⟨Nat.le_of_ble_eq_true rfl, Nat.le_of_ble_eq_true rfl⟩ rfl hl.1 rfl (Nat.le_of_ble_eq_true rfl) ⟨Nat.zero_le _, Nat.zero_le _⟩ hS (fun _ _ h => h) (fun _ h => h) dX1_firstOpen_12 (fun r9 w1 H locs hp hX hz hk hS => ?_)
    have hr9 := hp
    subst hr9
    refine lv_if_eq (tgt := 20) hx hb dX1_firstOpen_15 (by decide) (fun c15 => ?_) (fun c15 => ?_)
    · have c15b := b2i_f c15
      refine lv_iinc (v := (nI (j + 1))) (lv' := [(1, .int (nI (j + 1))), (0, .ref (q 0))]) hx hb dX1_firstOpen_20 hl (k := 1) rfl (nI_1 _) (by decide) rfl (fun ls hl => ?_)
      refine lv_goto (tgt := 2) hx hb dX1_firstOpen_23 (by decide) ?_
      exact ih (j + 1) w1 ls H locs (by omega) ⟨⟨by omega, lt_s1 hj.2 c15b⟩, hX, hS, by exact lv_sub hl [1, 0] rfl⟩
    · have c15b := b2i_t c15
      refine lv_iload_n hx hb dX1_firstOpen_18 rfl (lv_at hl 1 rfl) ?_
      exact W.iret hx hb hr (fun t ht hW => ⟨⟨_, w1, rfl, fam_at hj.2 c15b (by omega), wEnd M0.mv hX ht hW⟩, hS.F ht⟩) hS.2.2 dX1_firstOpen_19
end P21
end
section
/-! rows for what makes arrays -/
section R24
variable {p : Program} {l : Launch} {e : Env} {R : Room} {s : State} {m : MethodId} {args : Array Value} {below : List Frame} {meth : Method} {c : Code} {H : Heap} {locs : List Loc} {cells slots : Nat} {Q : State → Prop}
variable {cc : ByteArray} {nL pc idx a : Nat} {ls : Array Slot} {own0 : String} {rest st0 : List Value} {D : va_G} {tys : List (ClassId × FieldType)} {ws : va_W} {A : Nat → Prop} {H0 : Heap} {cyI cyZ : ClassId}
theorem lpC {σ τ : Type} {head : Nat} (I : σ → τ → Array Slot → Heap → List Loc → Prop) (μ : σ → τ → Nat) (cf sf : σ → Nat)
    (step : ∀ (x : σ) (y : τ) (ls : Array Slot) (H : Heap) (locs : List Loc), I x y ls H locs → (∀ (x' : σ) (y' : τ) (ls' : Array Slot) (H' : Heap) (locs' : List Loc), μ x' y' < μ x y → I x' y' ls' H' locs' → W p l e R s m args below meth c H' locs' (cf x') (sf x') Q (F0 m head ls' st0)) → W p l e R s m args below meth c H locs (cf x) (sf x) Q (F0 m head ls st0))
    (x : σ) (y : τ) (h : I x y ls H locs) : W p l e R s m args below meth c H locs (cf x) (sf x) Q (F0 m head ls st0) := by
  have K : ∀ (n : Nat) (x : σ) (y : τ) (ls : Array Slot) (H : Heap) (locs : List Loc), μ x y < n → I x y ls H locs → W p l e R s m args below meth c H locs (cf x) (sf x) Q (F0 m head ls st0) := by
    intro n
    induction n with
    | zero => intro x y ls H locs h; exact absurd h (Nat.not_lt_zero _)
    | succ n ih => intro x y ls H locs hn hI; exact step x y ls H locs hI (fun x' y' ls' H' locs' h1 h2 => ih x' y' ls' H' locs' (by omega) h2)
  exact K (μ x y + 1) x y ls H locs (Nat.lt_succ_self _) h
/-- a walk in two pieces -/
theorem cutW {σ : Type} {pc pc2 cells2 slots2 : Nat} {st2 : List Value} {ls : Array Slot} (I : σ → Array Slot → Heap → List Loc → Prop)
    (J : ∀ (x : σ) (ls : Array Slot) (H : Heap) (locs : List Loc), I x ls H locs → W p l e R s m args below meth c H locs cells2 slots2 Q (F0 m pc2 ls st2))
    (K : (∀ (x : σ) (ls : Array Slot) (H : Heap) (locs : List Loc), I x ls H locs → W p l e R s m args below meth c H locs cells2 slots2 Q (F0 m pc2 ls st2)) → W p l e R s m args below meth c H locs cells slots Q (F0 m pc ls st0)) : W p l e R s m args below meth c H locs cells slots Q (F0 m pc ls st0) := K J
theorem clsI {s : State} {c1 c2 : ClassId} (h1 : va_RA s c1 .int) (h2 : va_RA s c2 .int) : c1 = c2 := by
  have e1 : s.vm.findClass ("[" ++ FieldType.int.toString) = some c1 := h1
  have e2 : s.vm.findClass ("[" ++ FieldType.int.toString) = some c2 := h2
  exact Option.some.inj (e1.symm.trans e2)
theorem clsZ {s : State} {c1 c2 : ClassId} (h1 : va_RA s c1 .boolean) (h2 : va_RA s c2 .boolean) : c1 = c2 := by
  have e1 : s.vm.findClass ("[" ++ FieldType.boolean.toString) = some c1 := h1
  have e2 : s.vm.findClass ("[" ++ FieldType.boolean.toString) = some c2 := h2
  exact Option.some.inj (e1.symm.trans e2)
theorem newI (hF : CallFix p m c cc nL s args wA own0) (hK : va_K D vwCl tys s) (t0 : Nat) (ht : tys[t0]? = some (cyI, .int)) (hP : va_P D vwCl ws H) (hD : va_D A ws) (hS : va_S A H0 H locs) (hA : ∀ q, H0.size ≤ q → A q) (n : Nat) (hn : n ≤ 100) {i : Int32} (hi : i = nI n) (hc : cells + 1 ≤ R.cells) (hs : slots + n ≤ R.slots) (hdg : decode cc pc = .ok (.newarray .int, 2))
    (kk : ∀ (q : Nat) (H1 : Heap), va_P D vwCl (ws ++ [(q, .inl (cyI, n, .inl (fun _ => 0)))]) H1 → va_D A (ws ++ [(q, .inl (cyI, n, .inl (fun _ => 0)))]) → va_S A H0 H1 locs → W p l e R s m args below meth c H1 locs (cells + 1) (slots + n) Q (F0 m (pc + 2) ls (.ref q :: rest))) : W p l e R s m args below meth c H locs cells slots Q (F0 m pc ls (.int i :: rest)) := by
  subst hi
  refine va_newa (atype := .int) (ty := .int) (N' := n) (a0 := (n, .inl (fun _ => 0))) hF.1 hF.2.1 (hF.2.2.2.2 _ ka_int) rfl hK hP hD hS hA (fun cA => rfl) (nI_pos (by omega)) (nI_clamp (by omega)) ?_ hc hs hdg (fun q cA H1 hK1 hP1 hD1 hS1 => ?_)
  · show n * 4 ≤ 536870912
    omega
  · have e1 := (hK1.2 tys.length (cA, .int) (by simp)).2
    have e2 := (hK.2 t0 _ ht).2
    have e3 := clsI e1 e2
    subst e3
    exact kk q H1 hP1 hD1 hS1
theorem newZ (hF : CallFix p m c cc nL s args wA own0) (hK : va_K D vwCl tys s) (t0 : Nat) (ht : tys[t0]? = some (cyZ, .boolean)) (hP : va_P D vwCl ws H) (hD : va_D A ws) (hS : va_S A H0 H locs) (hA : ∀ q, H0.size ≤ q → A q) (n : Nat) (hn : n ≤ 100) {i : Int32} (hi : i = nI n) (hc : cells + 1 ≤ R.cells) (hs : slots + n ≤ R.slots) (hdg : decode cc pc = .ok (.newarray .boolean, 2))
    (kk : ∀ (q : Nat) (H1 : Heap), va_P D vwCl (ws ++ [(q, .inl (cyZ, n, .inl (fun _ => 0)))]) H1 → va_D A (ws ++ [(q, .inl (cyZ, n, .inl (fun _ => 0)))]) → va_S A H0 H1 locs → W p l e R s m args below meth c H1 locs (cells + 1) (slots + n) Q (F0 m (pc + 2) ls (.ref q :: rest))) : W p l e R s m args below meth c H locs cells slots Q (F0 m pc ls (.int i :: rest)) := by
  subst hi
  refine va_newa (atype := .boolean) (ty := .boolean) (N' := n) (a0 := (n, .inl (fun _ => 0))) hF.1 hF.2.1 (hF.2.2.2.2 _ ka_boolean) rfl hK hP hD hS hA (fun cA => rfl) (nI_pos (by omega)) (nI_clamp (by omega)) ?_ hc hs hdg (fun q cA H1 hK1 hP1 hD1 hS1 => ?_)
  · show n * 1 ≤ 536870912
    omega
  · have e1 := (hK1.2 tys.length (cA, .boolean) (by simp)).2
    have e2 := (hK.2 t0 _ ht).2
    have e3 := clsZ e1 e2
    subst e3
    exact kk q H1 hP1 hD1 hS1
variable {q : Nat → Nat} {th n st md : Int32} {v w : Nat → Nat → Int32}
theorem bKept {x : va_E} {q0 : Nat → Nat} {H1 : Heap} (hB : va_P D vwCl [(a, x)] H) (hna : ¬ own 8 q0 a) (hk : ∀ b : Nat, b < H.size → ¬ own 8 q0 b → H1[b]? = H[b]?) : va_P D vwCl [(a, x)] H1 := by
  intro k r hr
  have h0 := hB k r hr
  refine h0.kept (hk r.1 h0.lt ?_)
  cases k with
  | zero => cases hr; exact hna
  | succ k => simp at hr
/-- a new array beside the model's cells -/
theorem M0.newT (hF : CallFix p m c cc nL s args wA own0) (hX : M0 D cyI cyZ q th n st md v w s H) (hS : va_S A H0 H locs) (hA : ∀ q, H0.size ≤ q → A q) (hAq : ∀ b, own 8 q b → A b) (k : Nat) (hk : k ≤ 100) {i : Int32} (hi : i = nI k) (hc : cells + 1 ≤ R.cells) (hs : slots + k ≤ R.slots) (hdg : decode cc pc = .ok (.newarray .int, 2))
    (kk : ∀ (a : Nat) (H1 : Heap), M0 D cyI cyZ q th n st md v w s H1 → va_P D vwCl [(a, .inl (cyI, k, .inl (fun _ => 0)))] H1 → ¬ own 8 q a → A a → va_S A H0 H1 locs → W p l e R s m args below meth c H1 locs (cells + 1) (slots + k) Q (F0 m (pc + 2) ls (.ref a :: rest))) : W p l e R s m args below meth c H locs cells slots Q (F0 m pc ls (.int i :: rest)) := by
  refine newI hF hX.2.1 0 rfl hX.1 (apA hX.apart hAq) hS hA k hk hi hc hs hdg (fun a H1 hP hD hS1 => ?_)
  have h1 := hP.sub (ws' := cwM cyI cyZ q th n st md v w) [0, 1, 2, 3, 4, 5, 6, 7] rfl
  have h2 := hP.sub (ws' := [(a, .inl (cyI, k, .inl (fun _ => 0)))]) [8] rfl
  have h3 : A a := hD.2 8 (a, .inl (cyI, k, .inl (fun _ => 0))) rfl
  have h4 : ¬ own 8 q a := by
    intro ⟨i, hi, e⟩
    have h5 : ∃ x : va_E, (cwM cyI cyZ q th n st md v w)[i]? = some (q i, x) := by
      match i, hi with
      | 0, _ => exact ⟨_, rfl⟩
      | 1, _ => exact ⟨_, rfl⟩
      | 2, _ => exact ⟨_, rfl⟩
      | 3, _ => exact ⟨_, rfl⟩
      | 4, _ => exact ⟨_, rfl⟩
      | 5, _ => exact ⟨_, rfl⟩
      | 6, _ => exact ⟨_, rfl⟩
      | 7, _ => exact ⟨_, rfl⟩
    obtain ⟨x, hx⟩ := h5
    have h6 : (cwM cyI cyZ q th n st md v w ++ [(a, .inl (cyI, k, .inl (fun _ => 0)))])[i]? = some (q i, x) := by
      rw [List.getElem?_append_left (by exact hi)]
      exact hx
    have := hD.1 i 8 _ _ h6 rfl e.symm
    omega
  exact kk a H1 ⟨h1, hX.2.1, hX.2.2⟩ h2 h4 h3 hS1
theorem M0.stT {k : Nat} {f : Nat → Int32} (hF : CallFix p m c cc nL s args wA own0) (hX : M0 D cyI cyZ q th n st md v w s H) (hB : va_P D vwCl [(a, .inl (cyI, k, .inl f))] H) (hna : ¬ own 8 q a) (hAa : A a) (hAq : ∀ b, own 8 q b → A b) (hS : va_S A H0 H locs) (j : Nat) (hj : j < k) (hk : k ≤ 100) {i x : Int32} (hi : i = nI j) (hdg : decode cc pc = .ok (.iastore, 1))
    (kk : ∀ (H1 : Heap) (locs1 : List Loc), M0 D cyI cyZ q th n st md v w s H1 → va_P D vwCl [(a, .inl (cyI, k, .inl (upd f j x)))] H1 → va_S A H0 H1 locs1 → W p l e R s m args below meth c H1 locs1 cells slots Q (F0 m (pc + 1) ls rest)) : W p l e R s m args below meth c H locs cells slots Q (F0 m pc ls (.int x :: .int i :: .ref a :: rest)) := by
  subst hi
  have hP := va_P.app hX.1 hB
  have hD2 : va_D A [(a, (.inl (cyI, k, .inl f) : va_E))] := by
    refine ⟨fun i j x y hx hy _ => ?_, fun i x hx => ?_⟩
    · cases i with
      | succ i => simp at hx
      | zero =>
        cases j with
        | succ j => simp at hy
        | zero => rfl
    · cases i with
      | succ i => simp at hx
      | zero => cases hx; exact hAa
  have hD := va_D.app (apA hX.apart hAq) hD2 (fun i j x y hx hy e => by
    cases j with
    | succ j => simp at hy
    | zero =>
      cases hy
      have := hX.apart.2 i x hx
      rw [e] at this
      exact hna this)
  refine va_iast hF.1 hF.2.1 hX.2.1 hP hD hS 8 0 rfl rfl (vp_in_nI hj (by omega)) hdg (fun H1 locs1 hP1 _ hS1 => ?_)
  rw [nI_clamp (by omega)] at hP1
  have h1 := hP1.sub (ws' := cwM cyI cyZ q th n st md v w) [0, 1, 2, 3, 4, 5, 6, 7] rfl
  have h2 := hP1.sub (ws' := [(a, .inl (cyI, k, .inl (upd f j x)))]) [8] rfl
  exact kk H1 locs1 ⟨h1, hX.2.1, hX.2.2⟩ h2 hS1
end R24
/-- the digest over a row of numbers -/
def dgArr (f : Nat → Int32) (d : Int64) : Nat → Int64
  | 0 => d
  | k + 1 => dgI (dgArr f d k) (f k)
theorem dgArr10 {f : Nat → Int32} {d : Int64} : dgArr f d 10 = dgI (dgI (dgI (dgI (dgI (dgI (dgI (dgI (dgI (dgI d (f 0)) (f 1)) (f 2)) (f 3)) (f 4)) (f 5)) (f 6)) (f 7)) (f 8)) (f 9) := rfl
theorem dgArr8 {f : Nat → Int32} {d : Int64} : dgArr f d 8 = dgI (dgI (dgI (dgI (dgI (dgI (dgI (dgI d (f 0)) (f 1)) (f 2)) (f 3)) (f 4)) (f 5)) (f 6)) (f 7) := rfl
theorem dgArr0 {f : Nat → Int32} {d : Int64} : dgArr f d 0 = d := rfl
theorem dgArrS {f : Nat → Int32} {d : Int64} {k : Nat} : dgArr f d k * 31 + Int32.toInt64 (f k) = dgArr f d (k + 1) := rfl
theorem dgHd {X a : Int64} {b : Int32} : (X * 31 + a) * 31 + Int32.toInt64 b = dgI (dg X a) b := rfl
end
section
section P26
variable {l : Launch} {D : va_G} {cyI cyZ : ClassId} {q : Nat → Nat} {N K : Nat} {n st th md : Int32} {v w : Nat → Nat → Int32} {mk : Nat → Bool}
variable {t1 : Nat}
set_option maxHeartbeats 4000000 in
set_option maxRecDepth 100000 in
theorem mX1_digest (sz : Nat) (hok : Ok N st v) (hmk : Mk N mk md) : Met l yX1_digest (wm yX1_digest cX1_digest 10 (some .long)) ({ frames := 7, cells := 17, slots := 138, locals := 157 } : Room) (va_Pc [.ref (q 0)] (fun U => (fun U H => M0 D cyI cyZ q th (nI N) st md v w U H ∧ SM1 t1 (fun a => own 8 q a ∨ sz ≤ a) U H ∧ H.size = sz : State → Heap → Prop) U U.heap)) (va_Ql (fun (r : Int64) (u : Nat → Nat → Int32) => r = dgst v st mk N) (fun u U => (fun (u : Nat → Nat → Int32) => (M0 D cyI cyZ q 0 (nI N) st md v u : State → Heap → Prop)) u U U.heap) (fun a => own 8 q a ∨ sz ≤ a)) 17 138 (fun a => own 8 q a ∨ sz ≤ a) := by
  refine mt (by decide) (Nat.le_of_ble_eq_true rfl) ?_
  intro p ev s m below meth c ls hF hr hlocks hnm hX hl
  have hF : CallFix p m c cX1_digest 10 s _ wA RX1 := hF
  obtain ⟨hx, hb, hml, hown, hts⟩ := id hF
  obtain ⟨hX, hZ0, hsz⟩ := hX
  have hX : M0 D cyI cyZ q th (nI N) st md v w s s.heap := hX
  subst hsz
  have hl : lv_has ls 10 [(0, .ref (q 0))] := hl
  have hA : ∀ a : Nat, s.heap.size ≤ a → (fun a => own 8 q a ∨ s.heap.size ≤ a) a := fun _ h => Or.inr h
  have hS : va_S (fun a => own 8 q a ∨ s.heap.size ≤ a) s.heap s.heap [] := va_S.rf
  have hN := hok.1
  refine cutW (σ := Nat → Nat → Int32) (I := fun w ls H locs => M0 D cyI cyZ q 0 (nI N) st md v w s H ∧ va_S (fun a => own 8 q a ∨ s.heap.size ≤ a) s.heap H locs ∧ lv_has ls 10 [(0, .ref (q 0)), (2, .long (dgLegs v st mk (dgHead v st mk N) N))]) (pc2 := 314) (st2 := []) (cells2 := 17) (slots2 := 138) ?_ (fun J3 => ?_)
  · intro w ls H locs hI
    obtain ⟨hX, hS, hl⟩ := hI
    refine lv_iconst (v := 0) hx hb dX1_digest_314 (by decide) ?_
    refine lv_istore (lv' := [(4, .int 0), (0, .ref (q 0)), (2, .long (dgLegs v st mk (dgHead v st mk N) N))]) hx hb dX1_digest_315 hl (by decide) rfl (fun ls hl => ?_)
    refine lpH2 (σ := Nat) (τ := Nat → Nat → Int32) (fun j w ls H locs => (j ≤ 10) ∧ M0 D cyI cyZ q 0 (nI N) st md v w s H ∧ va_S (fun a => own 8 q a ∨ s.heap.size ≤ a) s.heap H locs ∧ lv_has ls 10 [(0, .ref (q 0)), (2, .long (dgWords v st N (dgLegs v st mk (dgHead v st mk N) N) j)), (4, .int (nI j))]) (fun j _ => 10 - j) (fun j w ls H locs hI ih => ?_) 0 w ⟨Nat.zero_le _, hX, hS, lv_sub hl [1, 2, 0] rfl⟩
    obtain ⟨hj, hX, hS, hl⟩ := hI
    refine lv_iload hx hb dX1_digest_317 (lv_at hl 2 rfl) ?_
    refine lv_bipush (v := (nI 10)) hx hb dX1_digest_319 (by decide) ?_
    refine lv_icmp_ge (tgt := 357) hx hb dX1_digest_321 (by decide) (fun c321 => ?_) (fun c321 => ?_)
    · have c321n : 10 ≤ j := (nI_leI (a := 10) (b := j) (by omega) (by omega)).mp c321
      have hx9 : j = 10 := by omega
      rw [hx9] at hl
      refine lv_lload_n hx hb dX1_digest_357 rfl (lv_at hl 1 rfl) ?_
      exact W.lret hx hb hr (fun t ht hW => ⟨⟨_, w, rfl, rfl, wEnd M0.mv hX ht hW⟩, hS.F ht⟩) hS.2.2 dX1_digest_358
    · have c321n : ¬ 10 ≤ j := fun h9 => c321 ((nI_leI (a := 10) (b := j) (by omega) (by omega)).mpr h9)
      refine lv_lload_n hx hb dX1_digest_324 rfl (lv_at hl 1 rfl) ?_
      refine lv_ldc2 hx hb hown (hts _ kk_RX1_171) dX1_digest_325 ?_
      refine lv_lmul hx hb dX1_digest_328 ?_
      refine lv_aload_n hx hb dX1_digest_329 rfl (lv_at hl 0 rfl) ?_
      refine M0.get hF hX 6 (by decide) rfl rfl kf_RX1_23 dX1_digest_330 ?_
      refine lv_iload hx hb dX1_digest_333 (lv_at hl 2 rfl) ?_
      refine aldI hF hX.2.1 hX.1 4 0 rfl rfl j (by omega) (by decide) rfl dX1_digest_335 ?_
      refine lv_i2l hx hb dX1_digest_336 rfl ?_
      refine lv_ladd hx hb dX1_digest_337 ?_
      refine lv_ldc2 hx hb hown (hts _ kk_RX1_171) dX1_digest_338 ?_
      refine lv_lmul hx hb dX1_digest_341 ?_
      refine lv_aload_n hx hb dX1_digest_342 rfl (lv_at hl 0 rfl) ?_
      refine lv_iload hx hb dX1_digest_343 (lv_at hl 2 rfl) ?_
      refine wVi (mc := 0) (ms := 0) (As := [.int (nI j)]) (rest := [.long ((((dgWords v st N (dgLegs v st mk (dgHead v st mk N) N) j) * 31) + (Int32.toInt64 (v 3 j))) * 31)]) hF (mX1_wordFor hok j (by omega)) M0.mv (fun _ => M0.mv) hX (M0.rc hX) jyX1_wordFor kl_RX1_163 ⟨rfl, rfl⟩ ⟨Nat.le_of_ble_eq_true rfl, Nat.le_of_ble_eq_true rfl⟩ rfl hl.1 rfl (Nat.le_of_ble_eq_true rfl) ⟨by show _ ≤ 17; omega, by show _ ≤ 138; omega⟩ hS (fun _ _ h => Or.inl h) (fun _ h => Or.inl h) dX1_digest_345 (fun r9 w1 H locs hp hX hz hk hS => ?_)
      have hr9 := hp
      subst hr9
      refine lv_i2l hx hb dX1_digest_348 rfl ?_
      refine lv_ladd hx hb dX1_digest_349 ?_
      refine topL (show (((((dgWords v st N (dgLegs v st mk (dgHead v st mk N) N) j) * 31) + (Int32.toInt64 (v 3 j))) * 31) + (Int32.toInt64 (nI (bwd v st N j)))) = dgWords v st N (dgLegs v st mk (dgHead v st mk N) N) (j + 1) from rfl) ?_
      refine lv_lstore_n (lv' := [(2, .long (dgWords v st N (dgLegs v st mk (dgHead v st mk N) N) (j + 1))), (0, .ref (q 0)), (4, .int (nI j))]) hx hb dX1_digest_350 rfl hl (by decide) rfl (fun ls hl => ?_)
      refine lv_iinc (v := (nI (j + 1))) (lv' := [(4, .int (nI (j + 1))), (2, .long (dgWords v st N (dgLegs v st mk (dgHead v st mk N) N) (j + 1))), (0, .ref (q 0))]) hx hb dX1_digest_351 hl (k := 2) rfl (nI_1 _) (by decide) rfl (fun ls hl => ?_)
      refine lv_goto (tgt := 317) hx hb dX1_digest_354 (by decide) ?_
      exact ih (j + 1) w1 ls H locs (by omega) ⟨by omega, hX, hS, lv_sub hl [2, 1, 0] rfl⟩
  · refine cutW (σ := Nat → Nat → Int32) (I := fun w ls H locs => M0 D cyI cyZ q 0 (nI N) st md v w s H ∧ va_S (fun a => own 8 q a ∨ s.heap.size ≤ a) s.heap H locs ∧ lv_has ls 10 [(0, .ref (q 0)), (2, .long (dgHead v st mk N))]) (pc2 := 158) (st2 := []) (cells2 := 1 + 0) (slots2 := 10 + 8 * 0) ?_ (fun J2 => ?_)
    · intro w ls H locs hI
      obtain ⟨hX, hS, hl⟩ := hI
      refine lv_iconst (v := 0) hx hb dX1_digest_158 (by decide) ?_
      refine lv_istore (lv' := [(4, .int 0), (0, .ref (q 0)), (2, .long (dgHead v st mk N))]) hx hb dX1_digest_159 hl (by decide) rfl (fun ls hl => ?_)
      refine lpC (σ := Nat) (τ := Nat → Nat → Int32) (fun j w ls H locs => (j ≤ N) ∧ M0 D cyI cyZ q 0 (nI N) st md v w s H ∧ va_S (fun a => own 8 q a ∨ s.heap.size ≤ a) s.heap H locs ∧ lv_has ls 10 [(0, .ref (q 0)), (2, .long (dgLegs v st mk (dgHead v st mk N) j)), (4, .int (nI j))]) (fun j _ => N - j) (fun j => 1 + j) (fun j => 10 + 8 * j) (fun j w ls H locs hI ih => ?_) 0 w ⟨Nat.zero_le _, hX, hS, lv_sub hl [1, 2, 0] rfl⟩
      obtain ⟨hj, hX, hS, hl⟩ := hI
      refine lv_iload hx hb dX1_digest_161 (lv_at hl 2 rfl) ?_
      refine lv_aload_n hx hb dX1_digest_163 rfl (lv_at hl 0 rfl) ?_
      refine M0.get hF hX 1 (by decide) rfl rfl kf_RX1_38 dX1_digest_164 ?_
      refine lv_icmp_ge (tgt := 314) hx hb dX1_digest_167 (by decide) (fun c167 => ?_) (fun c167 => ?_)
      · have c167n : N ≤ j := (nI_leI (a := N) (b := j) (by omega) (by omega)).mp c167
        have hx9 : j = N := by omega
        rw [hx9] at hl
        refine W.widen (k := 17) (n := 138) (by omega) (by omega) ?_
        exact J3 w ls H locs ⟨hX, hS, lv_sub hl [0, 1] rfl⟩
      · have c167n : ¬ N ≤ j := fun h9 => c167 ((nI_leI (a := N) (b := j) (by omega) (by omega)).mpr h9)
        refine lv_bipush (v := (nI 8)) hx hb dX1_digest_170 (by decide) ?_
        refine M0.newT hF hX hS hA (fun _ h => Or.inl h) 8 (by decide) rfl (by show _ ≤ 17; omega) (by show _ ≤ 138; omega) dX1_digest_172 (fun a2 H hX hBa2 hna2 hia2 hS => ?_)
        refine lv_dup hx hb dX1_digest_174 rfl ?_
        refine lv_iconst (v := 0) hx hb dX1_digest_175 (by decide) ?_
        refine lv_aload_n hx hb dX1_digest_176 rfl (lv_at hl 0 rfl) ?_
        refine M0.get hF hX 3 (by decide) rfl rfl kf_RX1_13 dX1_digest_177 ?_
        refine lv_iload hx hb dX1_digest_180 (lv_at hl 2 rfl) ?_
        refine aldI hF hX.2.1 hX.1 1 0 rfl rfl j (by omega) (by decide) rfl dX1_digest_182 ?_
        refine M0.stT hF hX hBa2 hna2 hia2 (fun _ h => Or.inl h) hS 0 (by decide) (by decide) rfl dX1_digest_183 (fun H locs hX hBa2 hS => ?_)
        refine lv_dup hx hb dX1_digest_184 rfl ?_
        refine lv_iconst (v := 1) hx hb dX1_digest_185 (by decide) ?_
        refine lv_aload_n hx hb dX1_digest_186 rfl (lv_at hl 0 rfl) ?_
        refine lv_iload hx hb dX1_digest_187 (lv_at hl 2 rfl) ?_
        refine cVi (As := [.int (nI j)]) (rest := [.int 1, .ref a2, .ref a2]) hF (mX1_heading hok j (by omega)) M0.mv hX (M0.rc hX) jyX1_heading kl_RX1_48 ⟨rfl, rfl⟩ ⟨Nat.le_of_ble_eq_true rfl, Nat.le_of_ble_eq_true rfl⟩ rfl hl.1 rfl (Nat.le_of_ble_eq_true rfl) ⟨by show _ ≤ 17; omega, by show _ ≤ 138; omega⟩ dX1_digest_189 (fun r hr9 => ?_)
        subst hr9
        refine M0.stT hF hX hBa2 hna2 hia2 (fun _ h => Or.inl h) hS 1 (by decide) (by decide) rfl dX1_digest_192 (fun H locs hX hBa2 hS => ?_)
        refine lv_dup hx hb dX1_digest_193 rfl ?_
        refine lv_iconst (v := 2) hx hb dX1_digest_194 (by decide) ?_
        refine lv_aload_n hx hb dX1_digest_195 rfl (lv_at hl 0 rfl) ?_
        refine M0.get hF hX 5 (by decide) rfl rfl kf_RX1_20 dX1_digest_196 ?_
        refine lv_iload hx hb dX1_digest_199 (lv_at hl 2 rfl) ?_
        refine aldI hF hX.2.1 hX.1 3 0 rfl rfl j (by omega) (by decide) rfl dX1_digest_201 ?_
        refine M0.stT hF hX hBa2 hna2 hia2 (fun _ h => Or.inl h) hS 2 (by decide) (by decide) rfl dX1_digest_202 (fun H locs hX hBa2 hS => ?_)
        refine lv_dup hx hb dX1_digest_203 rfl ?_
        refine lv_iconst (v := 3) hx hb dX1_digest_204 (by decide) ?_
        refine lv_aload_n hx hb dX1_digest_205 rfl (lv_at hl 0 rfl) ?_
        refine lv_iload hx hb dX1_digest_206 (lv_at hl 2 rfl) ?_
        refine wVi (mc := 0) (ms := 0) (As := [.int (nI j)]) (rest := [.int 3, .ref a2, .ref a2]) hF (mX1_noteNow hok j (by omega)) M0.mv (fun _ => M0.mv) hX (M0.rc hX) jyX1_noteNow kl_RX1_132 ⟨rfl, rfl⟩ ⟨Nat.le_of_ble_eq_true rfl, Nat.le_of_ble_eq_true rfl⟩ rfl hl.1 rfl (Nat.le_of_ble_eq_true rfl) ⟨by show _ ≤ 17; omega, by show _ ≤ 138; omega⟩ hS (fun _ _ h => Or.inl h) (fun _ h => Or.inl h) dX1_digest_208 (fun r9 w3 H locs hp hX hz hk hS => ?_)
        have hr9 := hp
        subst hr9
        have hBa2 := bKept hBa2 hna2 hk
        refine M0.stT hF hX hBa2 hna2 hia2 (fun _ h => Or.inl h) hS 3 (by decide) (by decide) rfl dX1_digest_211 (fun H locs hX hBa2 hS => ?_)
        refine lv_dup hx hb dX1_digest_212 rfl ?_
        refine lv_iconst (v := 4) hx hb dX1_digest_213 (by decide) ?_
        refine lv_aload_n hx hb dX1_digest_214 rfl (lv_at hl 0 rfl) ?_
        refine M0.get hF hX 6 (by decide) rfl rfl kf_RX1_23 dX1_digest_215 ?_
        refine lv_aload_n hx hb dX1_digest_218 rfl (lv_at hl 0 rfl) ?_
        refine M0.get hF hX 5 (by decide) rfl rfl kf_RX1_20 dX1_digest_219 ?_
        refine lv_iload hx hb dX1_digest_222 (lv_at hl 2 rfl) ?_
        refine aldI hF hX.2.1 hX.1 3 0 rfl rfl j (by omega) (by decide) rfl dX1_digest_224 ?_
        refine aldI hF hX.2.1 hX.1 4 0 rfl rfl (ix (v 2 j)) (okM10 hok j) (by decide) (okM hok j) dX1_digest_225 ?_
        refine M0.stT hF hX hBa2 hna2 hia2 (fun _ h => Or.inl h) hS 4 (by decide) (by decide) rfl dX1_digest_226 (fun H locs hX hBa2 hS => ?_)
        refine lv_dup hx hb dX1_digest_227 rfl ?_
        refine lv_iconst (v := 5) hx hb dX1_digest_228 (by decide) ?_
        refine lv_aload_n hx hb dX1_digest_229 rfl (lv_at hl 0 rfl) ?_
        refine lv_iload hx hb dX1_digest_230 (lv_at hl 2 rfl) ?_
        refine wVi (mc := 0) (ms := 0) (As := [.int (nI j)]) (rest := [.int 5, .ref a2, .ref a2]) hF (mX1_manyNow hok j (by omega)) M0.mv (fun _ => M0.mv) hX (M0.rc hX) jyX1_manyNow kl_RX1_91 ⟨rfl, rfl⟩ ⟨Nat.le_of_ble_eq_true rfl, Nat.le_of_ble_eq_true rfl⟩ rfl hl.1 rfl (Nat.le_of_ble_eq_true rfl) ⟨by show _ ≤ 17; omega, by show _ ≤ 138; omega⟩ hS (fun _ _ h => Or.inl h) (fun _ h => Or.inl h) dX1_digest_232 (fun r9 w4 H locs hp hX hz hk hS => ?_)
        have hr9 := hp
        subst hr9
        have hBa2 := bKept hBa2 hna2 hk
        refine M0.stT hF hX hBa2 hna2 hia2 (fun _ h => Or.inl h) hS 5 (by decide) (by decide) rfl dX1_digest_235 (fun H locs hX hBa2 hS => ?_)
        refine lv_dup hx hb dX1_digest_236 rfl ?_
        refine lv_bipush (v := 6) hx hb dX1_digest_237 (by decide) ?_
        refine lv_aload_n hx hb dX1_digest_239 rfl (lv_at hl 0 rfl) ?_
        refine lv_iload hx hb dX1_digest_240 (lv_at hl 2 rfl) ?_
        refine wVi (mc := 0) (ms := 0) (As := [.int (nI j)]) (rest := [.int 6, .ref a2, .ref a2]) hF (mX1_right hok j (by omega)) M0.mv (fun _ => M0.mv) hX (M0.rc hX) jyX1_right kl_RX1_149 ⟨rfl, rfl⟩ ⟨Nat.le_of_ble_eq_true rfl, Nat.le_of_ble_eq_true rfl⟩ rfl hl.1 rfl (Nat.le_of_ble_eq_true rfl) ⟨by show _ ≤ 17; omega, by show _ ≤ 138; omega⟩ hS (fun _ _ h => Or.inl h) (fun _ h => Or.inl h) dX1_digest_242 (fun r9 w5 H locs hp hX hz hk hS => ?_)
        have hr9 := hp
        subst hr9
        have hBa2 := bKept hBa2 hna2 hk
        refine M0.stT hF hX hBa2 hna2 hia2 (fun _ h => Or.inl h) hS 6 (by decide) (by decide) rfl dX1_digest_245 (fun H locs hX hBa2 hS => ?_)
        refine lv_dup hx hb dX1_digest_246 rfl ?_
        refine lv_bipush (v := 7) hx hb dX1_digest_247 (by decide) ?_
        refine lv_aload_n hx hb dX1_digest_249 rfl (lv_at hl 0 rfl) ?_
        refine lv_iload hx hb dX1_digest_250 (lv_at hl 2 rfl) ?_
        refine cVi (As := [.int (nI j)]) (rest := [.int 7, .ref a2, .ref a2]) hF (mX1_isMendedNow hok hmk j (by omega)) M0.mv hX (M0.rc hX) jyX1_isMendedNow kl_RX1_88 ⟨rfl, rfl⟩ ⟨Nat.le_of_ble_eq_true rfl, Nat.le_of_ble_eq_true rfl⟩ rfl hl.1 rfl (Nat.le_of_ble_eq_true rfl) ⟨by show _ ≤ 17; omega, by show _ ≤ 138; omega⟩ dX1_digest_252 (fun r hr9 => ?_)
        subst hr9
        refine lv_if_eq (tgt := 262) hx hb dX1_digest_255 (by decide) (fun c255 => ?_) (fun c255 => ?_)
        · have c255b := b2i_f c255
          refine lv_iconst (v := 0) hx hb dX1_digest_262 (by decide) ?_
          refine topI (show 0 = b2i (mk j) from b2i_0 c255b) ?_
          refine M0.stT hF hX hBa2 hna2 hia2 (fun _ h => Or.inl h) hS 7 (by decide) (by decide) rfl dX1_digest_263 (fun H locs hX hBa2 hS => ?_)
          obtain ⟨F2, hF2⟩ : ∃ z : Nat → Int32, z = (upd (upd (upd (upd (upd (upd (upd (upd (fun _ => 0) 0 (v 0 j)) 1 (hd (v 0) (j + 1))) 2 (v 2 j)) 3 (nt (v 0) st (j + 1))) 4 (v 3 (ix (v 2 j)))) 5 (rdn v st j)) 6 (rrn v st j)) 7 (b2i (mk j))) := ⟨_, rfl⟩
          rw [← hF2] at hBa2
          have F2_0 : F2 0 = (v 0 j) := by rw [hF2, pk_un (by decide), pk_un (by decide), pk_un (by decide), pk_un (by decide), pk_un (by decide), pk_un (by decide), pk_un (by decide), pk_us]
          have F2_1 : F2 1 = (hd (v 0) (j + 1)) := by rw [hF2, pk_un (by decide), pk_un (by decide), pk_un (by decide), pk_un (by decide), pk_un (by decide), pk_un (by decide), pk_us]
          have F2_2 : F2 2 = (v 2 j) := by rw [hF2, pk_un (by decide), pk_un (by decide), pk_un (by decide), pk_un (by decide), pk_un (by decide), pk_us]
          have F2_3 : F2 3 = (nt (v 0) st (j + 1)) := by rw [hF2, pk_un (by decide), pk_un (by decide), pk_un (by decide), pk_un (by decide), pk_us]
          have F2_4 : F2 4 = (v 3 (ix (v 2 j))) := by rw [hF2, pk_un (by decide), pk_un (by decide), pk_un (by decide), pk_us]
          have F2_5 : F2 5 = (rdn v st j) := by rw [hF2, pk_un (by decide), pk_un (by decide), pk_us]
          have F2_6 : F2 6 = (rrn v st j) := by rw [hF2, pk_un (by decide), pk_us]
          have F2_7 : F2 7 = (b2i (mk j)) := by rw [hF2, pk_us]
          refine lv_astore (lv' := [(5, .ref a2), (0, .ref (q 0)), (2, .long (dgLegs v st mk (dgHead v st mk N) j)), (4, .int (nI j))]) hx hb dX1_digest_264 hl (by decide) rfl (fun ls hl => ?_)
          refine lv_aload hx hb dX1_digest_266 (lv_at hl 0 rfl) ?_
          refine lv_astore (lv' := [(6, .ref a2), (5, .ref a2), (0, .ref (q 0)), (2, .long (dgLegs v st mk (dgHead v st mk N) j)), (4, .int (nI j))]) hx hb dX1_digest_268 hl (by decide) rfl (fun ls hl => ?_)
          refine lv_aload hx hb dX1_digest_270 (lv_at hl 0 rfl) ?_
          refine va_alen hx hb hX.2.1 hBa2 0 0 rfl rfl (v := (nI 8)) rfl dX1_digest_272 ?_
          refine lv_istore (lv' := [(7, .int (nI 8)), (6, .ref a2), (5, .ref a2), (0, .ref (q 0)), (2, .long (dgLegs v st mk (dgHead v st mk N) j)), (4, .int (nI j))]) hx hb dX1_digest_273 hl (by decide) rfl (fun ls hl => ?_)
          refine lv_iconst (v := 0) hx hb dX1_digest_275 (by decide) ?_
          refine lv_istore (lv' := [(8, .int 0), (7, .int (nI 8)), (6, .ref a2), (5, .ref a2), (0, .ref (q 0)), (2, .long (dgLegs v st mk (dgHead v st mk N) j)), (4, .int (nI j))]) hx hb dX1_digest_276 hl (by decide) rfl (fun ls hl => ?_)
          refine lpW (σ := Nat) (fun k ls => (k ≤ 8) ∧ lv_has ls 10 [(0, .ref (q 0)), (2, .long (dgArr F2 (dgLegs v st mk (dgHead v st mk N) j) k)), (4, .int (nI j)), (6, .ref a2), (7, .int (nI 8)), (8, .int (nI k))]) (fun k => 8 - k) (fun k ls hI ih2 => ?_) (0) ⟨Nat.zero_le _, lv_sub hl [4, 5, 6, 2, 1, 0] rfl⟩
          obtain ⟨hk2, hl⟩ := hI
          refine lv_iload hx hb dX1_digest_278 (lv_at hl 5 rfl) ?_
          refine lv_iload hx hb dX1_digest_280 (lv_at hl 4 rfl) ?_
          refine lv_icmp_ge (tgt := 308) hx hb dX1_digest_282 (by decide) (fun c282 => ?_) (fun c282 => ?_)
          · have c282n : 8 ≤ k := (nI_leI (a := 8) (b := k) (by omega) (by omega)).mp c282
            have hx9 : k = 8 := by omega
            rw [hx9] at hl
            refine lv_iinc (v := (nI (j + 1))) (lv' := [(4, .int (nI (j + 1))), (0, .ref (q 0)), (2, .long (dgArr F2 (dgLegs v st mk (dgHead v st mk N) j) 8)), (6, .ref a2), (7, .int (nI 8)), (8, .int (nI 8))]) hx hb dX1_digest_308 hl (k := 2) rfl (nI_1 _) (by decide) rfl (fun ls hl => ?_)
            refine lv_goto (tgt := 161) hx hb dX1_digest_311 (by decide) ?_
            refine W.widen (k := 1 + (j + 1)) (n := 10 + 8 * (j + 1)) (by omega) (by omega) ?_
            exact ih (j + 1) w5 ls H locs (by omega) ⟨by omega, hX, hS, by rw [show dgLegs v st mk (dgHead v st mk N) (j + 1) = dgArr F2 (dgLegs v st mk (dgHead v st mk N) j) 8 by rw [dgArr8, F2_0, F2_1, F2_2, F2_3, F2_4, F2_5, F2_6, F2_7]; rfl]; exact lv_sub hl [1, 2, 0] rfl⟩
          · have c282n : ¬ 8 ≤ k := fun h9 => c282 ((nI_leI (a := 8) (b := k) (by omega) (by omega)).mpr h9)
            refine lv_aload hx hb dX1_digest_285 (lv_at hl 3 rfl) ?_
            refine lv_iload hx hb dX1_digest_287 (lv_at hl 5 rfl) ?_
            refine aldI hF hX.2.1 hBa2 0 0 rfl rfl k (by omega) (by decide) rfl dX1_digest_289 ?_
            refine lv_istore (lv' := [(9, .int (F2 k)), (0, .ref (q 0)), (2, .long (dgArr F2 (dgLegs v st mk (dgHead v st mk N) j) k)), (4, .int (nI j)), (6, .ref a2), (7, .int (nI 8)), (8, .int (nI k))]) hx hb dX1_digest_290 hl (by decide) rfl (fun ls hl => ?_)
            refine lv_lload_n hx hb dX1_digest_292 rfl (lv_at hl 2 rfl) ?_
            refine lv_ldc2 hx hb hown (hts _ kk_RX1_171) dX1_digest_293 ?_
            refine lv_lmul hx hb dX1_digest_296 ?_
            refine lv_iload hx hb dX1_digest_297 (lv_at hl 0 rfl) ?_
            refine lv_i2l hx hb dX1_digest_299 rfl ?_
            refine lv_ladd hx hb dX1_digest_300 ?_
            refine lv_lstore_n (lv' := [(2, .long (((dgArr F2 (dgLegs v st mk (dgHead v st mk N) j) k) * 31) + (Int32.toInt64 (F2 k)))), (9, .int (F2 k)), (0, .ref (q 0)), (4, .int (nI j)), (6, .ref a2), (7, .int (nI 8)), (8, .int (nI k))]) hx hb dX1_digest_301 rfl hl (by decide) rfl (fun ls hl => ?_)
            refine lv_iinc (v := (nI (k + 1))) (lv' := [(8, .int (nI (k + 1))), (2, .long (((dgArr F2 (dgLegs v st mk (dgHead v st mk N) j) k) * 31) + (Int32.toInt64 (F2 k)))), (9, .int (F2 k)), (0, .ref (q 0)), (4, .int (nI j)), (6, .ref a2), (7, .int (nI 8))]) hx hb dX1_digest_302 hl (k := 6) rfl (nI_1 _) (by decide) rfl (fun ls hl => ?_)
            refine lv_goto (tgt := 278) hx hb dX1_digest_305 (by decide) ?_
            exact ih2 (k + 1) ls (by omega) ⟨by omega, by exact lv_sub hl [3, 1, 4, 5, 6, 0] rfl⟩
        · have c255b := b2i_t c255
          refine lv_iconst (v := 1) hx hb dX1_digest_258 (by decide) ?_
          refine lv_goto (tgt := 263) hx hb dX1_digest_259 (by decide) ?_
          refine topI (show 1 = b2i (mk j) from b2i_1 c255b) ?_
          refine M0.stT hF hX hBa2 hna2 hia2 (fun _ h => Or.inl h) hS 7 (by decide) (by decide) rfl dX1_digest_263 (fun H locs hX hBa2 hS => ?_)
          obtain ⟨F2, hF2⟩ : ∃ z : Nat → Int32, z = (upd (upd (upd (upd (upd (upd (upd (upd (fun _ => 0) 0 (v 0 j)) 1 (hd (v 0) (j + 1))) 2 (v 2 j)) 3 (nt (v 0) st (j + 1))) 4 (v 3 (ix (v 2 j)))) 5 (rdn v st j)) 6 (rrn v st j)) 7 (b2i (mk j))) := ⟨_, rfl⟩
          rw [← hF2] at hBa2
          have F2_0 : F2 0 = (v 0 j) := by rw [hF2, pk_un (by decide), pk_un (by decide), pk_un (by decide), pk_un (by decide), pk_un (by decide), pk_un (by decide), pk_un (by decide), pk_us]
          have F2_1 : F2 1 = (hd (v 0) (j + 1)) := by rw [hF2, pk_un (by decide), pk_un (by decide), pk_un (by decide), pk_un (by decide), pk_un (by decide), pk_un (by decide), pk_us]
          have F2_2 : F2 2 = (v 2 j) := by rw [hF2, pk_un (by decide), pk_un (by decide), pk_un (by decide), pk_un (by decide), pk_un (by decide), pk_us]
          have F2_3 : F2 3 = (nt (v 0) st (j + 1)) := by rw [hF2, pk_un (by decide), pk_un (by decide), pk_un (by decide), pk_un (by decide), pk_us]
          have F2_4 : F2 4 = (v 3 (ix (v 2 j))) := by rw [hF2, pk_un (by decide), pk_un (by decide), pk_un (by decide), pk_us]
          have F2_5 : F2 5 = (rdn v st j) := by rw [hF2, pk_un (by decide), pk_un (by decide), pk_us]
          have F2_6 : F2 6 = (rrn v st j) := by rw [hF2, pk_un (by decide), pk_us]
          have F2_7 : F2 7 = (b2i (mk j)) := by rw [hF2, pk_us]
          refine lv_astore (lv' := [(5, .ref a2), (0, .ref (q 0)), (2, .long (dgLegs v st mk (dgHead v st mk N) j)), (4, .int (nI j))]) hx hb dX1_digest_264 hl (by decide) rfl (fun ls hl => ?_)
          refine lv_aload hx hb dX1_digest_266 (lv_at hl 0 rfl) ?_
          refine lv_astore (lv' := [(6, .ref a2), (5, .ref a2), (0, .ref (q 0)), (2, .long (dgLegs v st mk (dgHead v st mk N) j)), (4, .int (nI j))]) hx hb dX1_digest_268 hl (by decide) rfl (fun ls hl => ?_)
          refine lv_aload hx hb dX1_digest_270 (lv_at hl 0 rfl) ?_
          refine va_alen hx hb hX.2.1 hBa2 0 0 rfl rfl (v := (nI 8)) rfl dX1_digest_272 ?_
          refine lv_istore (lv' := [(7, .int (nI 8)), (6, .ref a2), (5, .ref a2), (0, .ref (q 0)), (2, .long (dgLegs v st mk (dgHead v st mk N) j)), (4, .int (nI j))]) hx hb dX1_digest_273 hl (by decide) rfl (fun ls hl => ?_)
          refine lv_iconst (v := 0) hx hb dX1_digest_275 (by decide) ?_
          refine lv_istore (lv' := [(8, .int 0), (7, .int (nI 8)), (6, .ref a2), (5, .ref a2), (0, .ref (q 0)), (2, .long (dgLegs v st mk (dgHead v st mk N) j)), (4, .int (nI j))]) hx hb dX1_digest_276 hl (by decide) rfl (fun ls hl => ?_)
          refine lpW (σ := Nat) (fun k ls => (k ≤ 8) ∧ lv_has ls 10 [(0, .ref (q 0)), (2, .long (dgArr F2 (dgLegs v st mk (dgHead v st mk N) j) k)), (4, .int (nI j)), (6, .ref a2), (7, .int (nI 8)), (8, .int (nI k))]) (fun k => 8 - k) (fun k ls hI ih2 => ?_) (0) ⟨Nat.zero_le _, lv_sub hl [4, 5, 6, 2, 1, 0] rfl⟩
          obtain ⟨hk2, hl⟩ := hI
          refine lv_iload hx hb dX1_digest_278 (lv_at hl 5 rfl) ?_
          refine lv_iload hx hb dX1_digest_280 (lv_at hl 4 rfl) ?_
          refine lv_icmp_ge (tgt := 308) hx hb dX1_digest_282 (by decide) (fun c282 => ?_) (fun c282 => ?_)
          · have c282n : 8 ≤ k := (nI_leI (a := 8) (b := k) (by omega) (by omega)).mp c282
            have hx9 : k = 8 := by omega
            rw [hx9] at hl
            refine lv_iinc (v := (nI (j + 1))) (lv' := [(4, .int (nI (j + 1))), (0, .ref (q 0)), (2, .long (dgArr F2 (dgLegs v st mk (dgHead v st mk N) j) 8)), (6, .ref a2), (7, .int (nI 8)), (8, .int (nI 8))]) hx hb dX1_digest_308 hl (k := 2) rfl (nI_1 _) (by decide) rfl (fun ls hl => ?_)
            refine lv_goto (tgt := 161) hx hb dX1_digest_311 (by decide) ?_
            refine W.widen (k := 1 + (j + 1)) (n := 10 + 8 * (j + 1)) (by omega) (by omega) ?_
            exact ih (j + 1) w5 ls H locs (by omega) ⟨by omega, hX, hS, by rw [show dgLegs v st mk (dgHead v st mk N) (j + 1) = dgArr F2 (dgLegs v st mk (dgHead v st mk N) j) 8 by rw [dgArr8, F2_0, F2_1, F2_2, F2_3, F2_4, F2_5, F2_6, F2_7]; rfl]; exact lv_sub hl [1, 2, 0] rfl⟩
          · have c282n : ¬ 8 ≤ k := fun h9 => c282 ((nI_leI (a := 8) (b := k) (by omega) (by omega)).mpr h9)
            refine lv_aload hx hb dX1_digest_285 (lv_at hl 3 rfl) ?_
            refine lv_iload hx hb dX1_digest_287 (lv_at hl 5 rfl) ?_
            refine aldI hF hX.2.1 hBa2 0 0 rfl rfl k (by omega) (by decide) rfl dX1_digest_289 ?_
            refine lv_istore (lv' := [(9, .int (F2 k)), (0, .ref (q 0)), (2, .long (dgArr F2 (dgLegs v st mk (dgHead v st mk N) j) k)), (4, .int (nI j)), (6, .ref a2), (7, .int (nI 8)), (8, .int (nI k))]) hx hb dX1_digest_290 hl (by decide) rfl (fun ls hl => ?_)
            refine lv_lload_n hx hb dX1_digest_292 rfl (lv_at hl 2 rfl) ?_
            refine lv_ldc2 hx hb hown (hts _ kk_RX1_171) dX1_digest_293 ?_
            refine lv_lmul hx hb dX1_digest_296 ?_
            refine lv_iload hx hb dX1_digest_297 (lv_at hl 0 rfl) ?_
            refine lv_i2l hx hb dX1_digest_299 rfl ?_
            refine lv_ladd hx hb dX1_digest_300 ?_
            refine lv_lstore_n (lv' := [(2, .long (((dgArr F2 (dgLegs v st mk (dgHead v st mk N) j) k) * 31) + (Int32.toInt64 (F2 k)))), (9, .int (F2 k)), (0, .ref (q 0)), (4, .int (nI j)), (6, .ref a2), (7, .int (nI 8)), (8, .int (nI k))]) hx hb dX1_digest_301 rfl hl (by decide) rfl (fun ls hl => ?_)
            refine lv_iinc (v := (nI (k + 1))) (lv' := [(8, .int (nI (k + 1))), (2, .long (((dgArr F2 (dgLegs v st mk (dgHead v st mk N) j) k) * 31) + (Int32.toInt64 (F2 k)))), (9, .int (F2 k)), (0, .ref (q 0)), (4, .int (nI j)), (6, .ref a2), (7, .int (nI 8))]) hx hb dX1_digest_302 hl (k := 6) rfl (nI_1 _) (by decide) rfl (fun ls hl => ?_)
            refine lv_goto (tgt := 278) hx hb dX1_digest_305 (by decide) ?_
            exact ih2 (k + 1) ls (by omega) ⟨by omega, by exact lv_sub hl [3, 1, 4, 5, 6, 0] rfl⟩
    · skip
      refine lv_aload_n hx hb dX1_digest_0 rfl (lv_at hl 0 rfl) ?_
      refine lv_iconst (v := 0) hx hb dX1_digest_1 (by decide) ?_
      refine M0.put_th hF hX hS kf_RX1_35 dX1_digest_2 (fun H locs hX hS => ?_) (hAq := fun _ h => Or.inl h)
      refine lv_bipush (v := (nI 10)) hx hb dX1_digest_5 (by decide) ?_
      refine M0.newT hF hX hS hA (fun _ h => Or.inl h) 10 (by decide) rfl (by show _ ≤ 17; omega) (by show _ ≤ 138; omega) dX1_digest_7 (fun a6 H hX hBa6 hna6 hia6 hS => ?_)
      refine lv_dup hx hb dX1_digest_9 rfl ?_
      refine lv_iconst (v := 0) hx hb dX1_digest_10 (by decide) ?_
      refine lv_aload_n hx hb dX1_digest_11 rfl (lv_at hl 0 rfl) ?_
      refine M0.get hF hX 1 (by decide) rfl rfl kf_RX1_38 dX1_digest_12 ?_
      refine M0.stT hF hX hBa6 hna6 hia6 (fun _ h => Or.inl h) hS 0 (by decide) (by decide) rfl dX1_digest_15 (fun H locs hX hBa6 hS => ?_)
      refine lv_dup hx hb dX1_digest_16 rfl ?_
      refine lv_iconst (v := 1) hx hb dX1_digest_17 (by decide) ?_
      refine lv_aload_n hx hb dX1_digest_18 rfl (lv_at hl 0 rfl) ?_
      refine M0.get hF hX 2 (by decide) rfl rfl kf_RX1_7 dX1_digest_19 ?_
      refine M0.stT hF hX hBa6 hna6 hia6 (fun _ h => Or.inl h) hS 1 (by decide) (by decide) rfl dX1_digest_22 (fun H locs hX hBa6 hS => ?_)
      refine lv_dup hx hb dX1_digest_23 rfl ?_
      refine lv_iconst (v := 2) hx hb dX1_digest_24 (by decide) ?_
      refine lv_aload_n hx hb dX1_digest_25 rfl (lv_at hl 0 rfl) ?_
      refine lv_aload_n hx hb dX1_digest_26 rfl (lv_at hl 0 rfl) ?_
      refine M0.get hF hX 9 (by decide) rfl rfl kf_RX1_29 dX1_digest_27 ?_
      refine wVi (mc := 0) (ms := 0) (As := [.ref (q 6)]) (rest := [.int 2, .ref a6, .ref a6]) hF (mX1_endOf_x hok) (Mv.and M0.mv SM1.mv) (fun _ => M0.mv) ⟨hX, SM1.narrow (SM1.kept hZ0 hS.2.1) (fun _ h => Or.inl h)⟩ (M0.rc hX) jyX1_endOf kl_RX1_121 ⟨rfl, rfl⟩ ⟨Nat.le_of_ble_eq_true rfl, Nat.le_of_ble_eq_true rfl⟩ rfl hl.1 rfl (Nat.le_of_ble_eq_true rfl) ⟨by show _ ≤ 17; omega, by show _ ≤ 138; omega⟩ hS (fun _ _ h => Or.inl h) (fun _ h => Or.inl h) dX1_digest_30 (fun r9 w7 H locs hp hX hz hk hS => ?_)
      have hr9 := hp
      subst hr9
      have hBa6 := bKept hBa6 hna6 hk
      refine M0.stT hF hX hBa6 hna6 hia6 (fun _ h => Or.inl h) hS 2 (by decide) (by decide) rfl dX1_digest_33 (fun H locs hX hBa6 hS => ?_)
      refine lv_dup hx hb dX1_digest_34 rfl ?_
      refine lv_iconst (v := 3) hx hb dX1_digest_35 (by decide) ?_
      refine lv_aload_n hx hb dX1_digest_36 rfl (lv_at hl 0 rfl) ?_
      refine lv_aload_n hx hb dX1_digest_37 rfl (lv_at hl 0 rfl) ?_
      refine M0.get hF hX 10 (by decide) rfl rfl kf_RX1_32 dX1_digest_38 ?_
      refine wVi (mc := 0) (ms := 0) (As := [.ref (q 7)]) (rest := [.int 3, .ref a6, .ref a6]) hF (mX1_endOf_y hok) (Mv.and M0.mv SM1.mv) (fun _ => M0.mv) ⟨hX, SM1.narrow (SM1.kept hZ0 hS.2.1) (fun _ h => Or.inl h)⟩ (M0.rc hX) jyX1_endOf kl_RX1_121 ⟨rfl, rfl⟩ ⟨Nat.le_of_ble_eq_true rfl, Nat.le_of_ble_eq_true rfl⟩ rfl hl.1 rfl (Nat.le_of_ble_eq_true rfl) ⟨by show _ ≤ 17; omega, by show _ ≤ 138; omega⟩ hS (fun _ _ h => Or.inl h) (fun _ h => Or.inl h) dX1_digest_41 (fun r9 w8 H locs hp hX hz hk hS => ?_)
      have hr9 := hp
      subst hr9
      have hBa6 := bKept hBa6 hna6 hk
      refine M0.stT hF hX hBa6 hna6 hia6 (fun _ h => Or.inl h) hS 3 (by decide) (by decide) rfl dX1_digest_44 (fun H locs hX hBa6 hS => ?_)
      refine lv_dup hx hb dX1_digest_45 rfl ?_
      refine lv_iconst (v := 4) hx hb dX1_digest_46 (by decide) ?_
      refine lv_aload_n hx hb dX1_digest_47 rfl (lv_at hl 0 rfl) ?_
      refine wVi (mc := 0) (ms := 0) (As := []) (rest := [.int 4, .ref a6, .ref a6]) hF (mX1_home hok) (Mv.and M0.mv SM1.mv) (fun _ => M0.mv) ⟨hX, SM1.narrow (SM1.kept hZ0 hS.2.1) (fun _ h => Or.inl h)⟩ (M0.rc hX) jyX1_home kl_RX1_125 ⟨rfl, rfl⟩ ⟨Nat.le_of_ble_eq_true rfl, Nat.le_of_ble_eq_true rfl⟩ rfl hl.1 rfl (Nat.le_of_ble_eq_true rfl) ⟨by show _ ≤ 17; omega, by show _ ≤ 138; omega⟩ hS (fun _ _ h => Or.inl h) (fun _ h => Or.inl h) dX1_digest_48 (fun r9 w9 H locs hp hX hz hk hS => ?_)
      have hr9 := hp
      subst hr9
      have hBa6 := bKept hBa6 hna6 hk
      refine M0.stT hF hX hBa6 hna6 hia6 (fun _ h => Or.inl h) hS 4 (by decide) (by decide) rfl dX1_digest_51 (fun H locs hX hBa6 hS => ?_)
      refine lv_dup hx hb dX1_digest_52 rfl ?_
      refine lv_iconst (v := 5) hx hb dX1_digest_53 (by decide) ?_
      refine lv_aload_n hx hb dX1_digest_54 rfl (lv_at hl 0 rfl) ?_
      refine wVi (mc := 0) (ms := 0) (As := []) (rest := [.int 5, .ref a6, .ref a6]) hF (mX1_back hok) (Mv.and M0.mv SM1.mv) (fun _ => M0.mv) ⟨hX, SM1.narrow (SM1.kept hZ0 hS.2.1) (fun _ h => Or.inl h)⟩ (M0.rc hX) jyX1_back kl_RX1_129 ⟨rfl, rfl⟩ ⟨Nat.le_of_ble_eq_true rfl, Nat.le_of_ble_eq_true rfl⟩ rfl hl.1 rfl (Nat.le_of_ble_eq_true rfl) ⟨by show _ ≤ 17; omega, by show _ ≤ 138; omega⟩ hS (fun _ _ h => Or.inl h) (fun _ h => Or.inl h) dX1_digest_55 (fun r9 w10 H locs hp hX hz hk hS => ?_)
      have hr9 := hp
      subst hr9
      have hBa6 := bKept hBa6 hna6 hk
      refine M0.stT hF hX hBa6 hna6 hia6 (fun _ h => Or.inl h) hS 5 (by decide) (by decide) rfl dX1_digest_58 (fun H locs hX hBa6 hS => ?_)
      refine lv_dup hx hb dX1_digest_59 rfl ?_
      refine lv_bipush (v := 6) hx hb dX1_digest_60 (by decide) ?_
      refine lv_aload_n hx hb dX1_digest_62 rfl (lv_at hl 0 rfl) ?_
      refine cVi (As := []) (rest := [.int 6, .ref a6, .ref a6]) hF (mX1_allBeats hok) M0.mv hX (M0.rc hX) jyX1_allBeats kl_RX1_138 ⟨rfl, rfl⟩ ⟨Nat.le_of_ble_eq_true rfl, Nat.le_of_ble_eq_true rfl⟩ rfl hl.1 rfl (Nat.le_of_ble_eq_true rfl) ⟨by show _ ≤ 17; omega, by show _ ≤ 138; omega⟩ dX1_digest_63 (fun r hr9 => ?_)
      subst hr9
      refine M0.stT hF hX hBa6 hna6 hia6 (fun _ h => Or.inl h) hS 6 (by decide) (by decide) rfl dX1_digest_66 (fun H locs hX hBa6 hS => ?_)
      refine lv_dup hx hb dX1_digest_67 rfl ?_
      refine lv_bipush (v := 7) hx hb dX1_digest_68 (by decide) ?_
      refine lv_aload_n hx hb dX1_digest_70 rfl (lv_at hl 0 rfl) ?_
      refine wVi (mc := 0) (ms := 0) (As := []) (rest := [.int 7, .ref a6, .ref a6]) hF (mX1_foldedNow hok) M0.mv (fun _ => M0.mv) hX (M0.rc hX) jyX1_foldedNow kl_RX1_141 ⟨rfl, rfl⟩ ⟨Nat.le_of_ble_eq_true rfl, Nat.le_of_ble_eq_true rfl⟩ rfl hl.1 rfl (Nat.le_of_ble_eq_true rfl) ⟨by show _ ≤ 17; omega, by show _ ≤ 138; omega⟩ hS (fun _ _ h => Or.inl h) (fun _ h => Or.inl h) dX1_digest_71 (fun r9 w11 H locs hp hX hz hk hS => ?_)
      have hr9 := hp
      subst hr9
      have hBa6 := bKept hBa6 hna6 hk
      refine M0.stT hF hX hBa6 hna6 hia6 (fun _ h => Or.inl h) hS 7 (by decide) (by decide) rfl dX1_digest_74 (fun H locs hX hBa6 hS => ?_)
      refine lv_dup hx hb dX1_digest_75 rfl ?_
      refine lv_bipush (v := 8) hx hb dX1_digest_76 (by decide) ?_
      refine lv_aload_n hx hb dX1_digest_78 rfl (lv_at hl 0 rfl) ?_
      refine wVi (mc := 0) (ms := 0) (As := []) (rest := [.int 8, .ref a6, .ref a6]) hF (mX1_wide hok) M0.mv (fun _ => M0.mv) hX (M0.rc hX) jyX1_wide kl_RX1_146 ⟨rfl, rfl⟩ ⟨Nat.le_of_ble_eq_true rfl, Nat.le_of_ble_eq_true rfl⟩ rfl hl.1 rfl (Nat.le_of_ble_eq_true rfl) ⟨by show _ ≤ 17; omega, by show _ ≤ 138; omega⟩ hS (fun _ _ h => Or.inl h) (fun _ h => Or.inl h) dX1_digest_79 (fun r9 w12 H locs hp hX hz hk hS => ?_)
      have hr9 := hp
      subst hr9
      have hBa6 := bKept hBa6 hna6 hk
      refine M0.stT hF hX hBa6 hna6 hia6 (fun _ h => Or.inl h) hS 8 (by decide) (by decide) rfl dX1_digest_82 (fun H locs hX hBa6 hS => ?_)
      refine lv_dup hx hb dX1_digest_83 rfl ?_
      refine lv_bipush (v := 9) hx hb dX1_digest_84 (by decide) ?_
      refine lv_aload_n hx hb dX1_digest_86 rfl (lv_at hl 0 rfl) ?_
      refine wVi (mc := 0) (ms := 0) (As := []) (rest := [.int 9, .ref a6, .ref a6]) hF (mX1_open hok hmk) M0.mv (fun _ => M0.mv) hX (M0.rc hX) jyX1_open kl_RX1_157 ⟨rfl, rfl⟩ ⟨Nat.le_of_ble_eq_true rfl, Nat.le_of_ble_eq_true rfl⟩ rfl hl.1 rfl (Nat.le_of_ble_eq_true rfl) ⟨by show _ ≤ 17; omega, by show _ ≤ 138; omega⟩ hS (fun _ _ h => Or.inl h) (fun _ h => Or.inl h) dX1_digest_87 (fun r9 w13 H locs hp hX hz hk hS => ?_)
      have hr9 := hp
      subst hr9
      have hBa6 := bKept hBa6 hna6 hk
      refine M0.stT hF hX hBa6 hna6 hia6 (fun _ h => Or.inl h) hS 9 (by decide) (by decide) rfl dX1_digest_90 (fun H locs hX hBa6 hS => ?_)
      obtain ⟨F1, hF1⟩ : ∃ z : Nat → Int32, z = (upd (upd (upd (upd (upd (upd (upd (upd (upd (upd (fun _ => 0) 0 (nI N)) 1 st) 2 (px (v 0) (v 1) N)) 3 (py (v 0) (v 1) N)) 4 (mx (ab (px (v 0) (v 1) N)) (ab (py (v 0) (v 1) N)))) 5 (rtn v N)) 6 (sumI (v 1) N)) 7 (ctB (fold1 v st) N)) 8 (rng v st N)) 9 (ctB (amb v st mk) N)) := ⟨_, rfl⟩
      rw [← hF1] at hBa6
      have F1_0 : F1 0 = (nI N) := by rw [hF1, pk_un (by decide), pk_un (by decide), pk_un (by decide), pk_un (by decide), pk_un (by decide), pk_un (by decide), pk_un (by decide), pk_un (by decide), pk_un (by decide), pk_us]
      have F1_1 : F1 1 = st := by rw [hF1, pk_un (by decide), pk_un (by decide), pk_un (by decide), pk_un (by decide), pk_un (by decide), pk_un (by decide), pk_un (by decide), pk_un (by decide), pk_us]
      have F1_2 : F1 2 = (px (v 0) (v 1) N) := by rw [hF1, pk_un (by decide), pk_un (by decide), pk_un (by decide), pk_un (by decide), pk_un (by decide), pk_un (by decide), pk_un (by decide), pk_us]
      have F1_3 : F1 3 = (py (v 0) (v 1) N) := by rw [hF1, pk_un (by decide), pk_un (by decide), pk_un (by decide), pk_un (by decide), pk_un (by decide), pk_un (by decide), pk_us]
      have F1_4 : F1 4 = (mx (ab (px (v 0) (v 1) N)) (ab (py (v 0) (v 1) N))) := by rw [hF1, pk_un (by decide), pk_un (by decide), pk_un (by decide), pk_un (by decide), pk_un (by decide), pk_us]
      have F1_5 : F1 5 = (rtn v N) := by rw [hF1, pk_un (by decide), pk_un (by decide), pk_un (by decide), pk_un (by decide), pk_us]
      have F1_6 : F1 6 = (sumI (v 1) N) := by rw [hF1, pk_un (by decide), pk_un (by decide), pk_un (by decide), pk_us]
      have F1_7 : F1 7 = (ctB (fold1 v st) N) := by rw [hF1, pk_un (by decide), pk_un (by decide), pk_us]
      have F1_8 : F1 8 = (rng v st N) := by rw [hF1, pk_un (by decide), pk_us]
      have F1_9 : F1 9 = (ctB (amb v st mk) N) := by rw [hF1, pk_us]
      refine lv_astore_n (lv' := [(1, .ref a6), (0, .ref (q 0))]) hx hb dX1_digest_91 rfl hl (by decide) rfl (fun ls hl => ?_)
      refine lv_ldc2 hx hb hown (hts _ kk_RX1_169) dX1_digest_92 ?_
      refine lv_lstore_n (lv' := [(2, .long 1051), (1, .ref a6), (0, .ref (q 0))]) hx hb dX1_digest_95 rfl hl (by decide) rfl (fun ls hl => ?_)
      refine lv_aload_n hx hb dX1_digest_96 rfl (lv_at hl 1 rfl) ?_
      refine lv_astore (lv' := [(4, .ref a6), (2, .long 1051), (1, .ref a6), (0, .ref (q 0))]) hx hb dX1_digest_97 hl (by decide) rfl (fun ls hl => ?_)
      refine lv_aload hx hb dX1_digest_99 (lv_at hl 0 rfl) ?_
      refine va_alen hx hb hX.2.1 hBa6 0 0 rfl rfl (v := (nI 10)) rfl dX1_digest_101 ?_
      refine lv_istore (lv' := [(5, .int (nI 10)), (4, .ref a6), (2, .long 1051), (1, .ref a6), (0, .ref (q 0))]) hx hb dX1_digest_102 hl (by decide) rfl (fun ls hl => ?_)
      refine lv_iconst (v := 0) hx hb dX1_digest_104 (by decide) ?_
      refine lv_istore (lv' := [(6, .int 0), (5, .int (nI 10)), (4, .ref a6), (2, .long 1051), (1, .ref a6), (0, .ref (q 0))]) hx hb dX1_digest_105 hl (by decide) rfl (fun ls hl => ?_)
      refine lpW (σ := Nat) (fun k ls => (k ≤ 10) ∧ lv_has ls 10 [(0, .ref (q 0)), (2, .long (dgArr F1 1051 k)), (4, .ref a6), (5, .int (nI 10)), (6, .int (nI k))]) (fun k => 10 - k) (fun k ls hI ih1 => ?_) (0) ⟨Nat.zero_le _, by rw [dgArr0]; exact lv_sub hl [5, 3, 2, 1, 0] rfl⟩
      obtain ⟨hk1, hl⟩ := hI
      refine lv_iload hx hb dX1_digest_107 (lv_at hl 4 rfl) ?_
      refine lv_iload hx hb dX1_digest_109 (lv_at hl 3 rfl) ?_
      refine lv_icmp_ge (tgt := 137) hx hb dX1_digest_111 (by decide) (fun c111 => ?_) (fun c111 => ?_)
      · have c111n : 10 ≤ k := (nI_leI (a := 10) (b := k) (by omega) (by omega)).mp c111
        have hx9 : k = 10 := by omega
        rw [hx9] at hl
        refine lv_lload_n hx hb dX1_digest_137 rfl (lv_at hl 1 rfl) ?_
        refine lv_ldc2 hx hb hown (hts _ kk_RX1_171) dX1_digest_138 ?_
        refine lv_lmul hx hb dX1_digest_141 ?_
        refine lv_aload_n hx hb dX1_digest_142 rfl (lv_at hl 0 rfl) ?_
        refine wVl (mc := 0) (ms := 0) (As := []) (rest := [.long ((dgArr F1 1051 10) * 31)]) hF (mX1_all hok hmk) M0.mv (fun _ => M0.mv) hX (M0.rc hX) jyX1_all kl_RX1_153 ⟨rfl, rfl⟩ ⟨Nat.le_of_ble_eq_true rfl, Nat.le_of_ble_eq_true rfl⟩ rfl hl.1 rfl (Nat.le_of_ble_eq_true rfl) ⟨by show _ ≤ 17; omega, by show _ ≤ 138; omega⟩ hS (fun _ _ h => Or.inl h) (fun _ h => Or.inl h) dX1_digest_143 (fun r9 w14 H locs hp hX hz hk hS => ?_)
        have hr9 := hp
        subst hr9
        have hBa6 := bKept hBa6 hna6 hk
        refine lv_ladd hx hb dX1_digest_146 ?_
        refine lv_ldc2 hx hb hown (hts _ kk_RX1_171) dX1_digest_147 ?_
        refine lv_lmul hx hb dX1_digest_150 ?_
        refine lv_aload_n hx hb dX1_digest_151 rfl (lv_at hl 0 rfl) ?_
        refine wVi (mc := 0) (ms := 0) (As := []) (rest := [.long ((((dgArr F1 1051 10) * 31) + (wys v st mk N)) * 31)]) hF (mX1_stepFor hok) M0.mv (fun _ => M0.mv) hX (M0.rc hX) jyX1_stepFor kl_RX1_166 ⟨rfl, rfl⟩ ⟨Nat.le_of_ble_eq_true rfl, Nat.le_of_ble_eq_true rfl⟩ rfl hl.1 rfl (Nat.le_of_ble_eq_true rfl) ⟨by show _ ≤ 17; omega, by show _ ≤ 138; omega⟩ hS (fun _ _ h => Or.inl h) (fun _ h => Or.inl h) dX1_digest_152 (fun r9 w15 H locs hp hX hz hk hS => ?_)
        have hr9 := hp
        subst hr9
        have hBa6 := bKept hBa6 hna6 hk
        refine lv_i2l hx hb dX1_digest_155 rfl ?_
        refine lv_ladd hx hb dX1_digest_156 ?_
        refine topL (show (((((dgArr F1 1051 10) * 31) + (wys v st mk N)) * 31) + (Int32.toInt64 (nI (bst v N)))) = dgHead v st mk N from by rw [dgArr10, F1_0, F1_1, F1_2, F1_3, F1_4, F1_5, F1_6, F1_7, F1_8, F1_9]; unfold dgHead; exact dgHd) ?_
        refine lv_lstore_n (lv' := [(2, .long (dgHead v st mk N)), (0, .ref (q 0)), (4, .ref a6), (5, .int (nI 10)), (6, .int (nI 10))]) hx hb dX1_digest_157 rfl hl (by decide) rfl (fun ls hl => ?_)
        refine W.widen (k := 1 + 0) (n := 10 + 8 * 0) (by omega) (by omega) ?_
        exact J2 w15 ls H locs ⟨hX, hS, lv_sub hl [1, 0] rfl⟩
      · have c111n : ¬ 10 ≤ k := fun h9 => c111 ((nI_leI (a := 10) (b := k) (by omega) (by omega)).mpr h9)
        refine lv_aload hx hb dX1_digest_114 (lv_at hl 2 rfl) ?_
        refine lv_iload hx hb dX1_digest_116 (lv_at hl 4 rfl) ?_
        refine aldI hF hX.2.1 hBa6 0 0 rfl rfl k (by omega) (by decide) rfl dX1_digest_118 ?_
        refine lv_istore (lv' := [(7, .int (F1 k)), (0, .ref (q 0)), (2, .long (dgArr F1 1051 k)), (4, .ref a6), (5, .int (nI 10)), (6, .int (nI k))]) hx hb dX1_digest_119 hl (by decide) rfl (fun ls hl => ?_)
        refine lv_lload_n hx hb dX1_digest_121 rfl (lv_at hl 2 rfl) ?_
        refine lv_ldc2 hx hb hown (hts _ kk_RX1_171) dX1_digest_122 ?_
        refine lv_lmul hx hb dX1_digest_125 ?_
        refine lv_iload hx hb dX1_digest_126 (lv_at hl 0 rfl) ?_
        refine lv_i2l hx hb dX1_digest_128 rfl ?_
        refine lv_ladd hx hb dX1_digest_129 ?_
        refine topL (show (((dgArr F1 1051 k) * 31) + (Int32.toInt64 (F1 k))) = dgArr F1 1051 (k + 1) from dgArrS) ?_
        refine lv_lstore_n (lv' := [(2, .long (dgArr F1 1051 (k + 1))), (7, .int (F1 k)), (0, .ref (q 0)), (4, .ref a6), (5, .int (nI 10)), (6, .int (nI k))]) hx hb dX1_digest_130 rfl hl (by decide) rfl (fun ls hl => ?_)
        refine lv_iinc (v := (nI (k + 1))) (lv' := [(6, .int (nI (k + 1))), (2, .long (dgArr F1 1051 (k + 1))), (7, .int (F1 k)), (0, .ref (q 0)), (4, .ref a6), (5, .int (nI 10))]) hx hb dX1_digest_131 hl (k := 5) rfl (nI_1 _) (by decide) rfl (fun ls hl => ?_)
        refine lv_goto (tgt := 107) hx hb dX1_digest_134 (by decide) ?_
        exact ih1 (k + 1) ls (by omega) ⟨by omega, by exact lv_sub hl [3, 1, 4, 5, 0] rfl⟩
end P26
end
